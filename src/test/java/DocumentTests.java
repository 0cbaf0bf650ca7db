import java.nio.file.Files;
import java.nio.file.Path;
import java.util.ArrayList;
import java.util.List;

/**
 * The document from its first line to its last: each sentence word for word, with checks reckoned by hand that fail if
 * it is broken. What does not stand in the document (any more), and what stands there without a check, is told at the
 * end; that is no fault of the class.
 */
public final class DocumentTests extends Checks {
  private static final Path DOCUMENT = Path.of("../shared/DOC.md");
  private static final List<String> quotes = new ArrayList<>();

  private static void reads(String quote) {
    quotes.add(quote);
    says(quote);
  }

  private static void fieldIs(String s, int answer) {
    due("field of " + s, field(new HalfOrNine(), s), answer);
  }

  private static void termIs(String s, int answer) {
    due("term of " + s, term(new HalfOrNine(), s), answer);
  }

  /** What both have of a HARVEST by TERM 0. */
  private static void bothHave(HalfOrNine x, int harvest, int year, int man, int owner) {
    due("the man's of " + harvest + " in YEAR " + year, x.whose(0, harvest, year, 0), man);
    due("the owner's of " + harvest + " in YEAR " + year, x.whose(0, harvest, year, 1), owner);
  }

  private static void lastCalls() {
    reads("An object is used for at most 512 calls after it has been made");
    for (int last = 0; last < 8; last++) {
      HalfOrNine x = with("g10;p3,10;", "p1/2");
      x.image();
      x.row(20);
      int calls = 2 + 1 + 1 + 1 + 1 + 1;
      for (; calls < 511; calls++) x.proof();
      switch (last) {
        case 0: due("the 512th, worth", x.worth(0, 1, 0), 7000); break;
        case 1: due("the 512th, proof", x.proof(), 117); break;
        case 2: due("the 512th, years", x.years(0, 0, 2, 1), 14000); break;
        case 3: due("the 512th, judge", x.judge(1, 7), -9); break;
        case 4: due("the 512th, restore", x.restore(), 1); break;
        case 5: due("the 512th, feed", x.feed(8, -1L), 8); break;
        case 6: due("the 512th, pains of no TERM", x.pains(1), -1); break;
        default: due("the 512th, ruins", x.ruins(0, 1, 3, 10, 0, 30, 50), 0); break;
      }
    }
    HalfOrNine x = new HalfOrNine();
    for (int call = 1; call <= 511; call++) x.takes(0);
    due("of 511 REFUSALS", x.count(11), 511);
  }

  private static void sideBySide() {
    says("an object for itself: another one's calls change nothing of it");
    HalfOrNine one = with("g10;p3,10;", "p1/2");
    one.image();
    one.row(20);
    feed(one, "g1");
    String before = seen(one);
    HalfOrNine other = with("g7;w10,0;m1,1;s2,1;o9;", "f9", "w6");
    other.row(1);
    other.image();
    other.restore();
    other.pains(5);
    other.years(1, 3, 10, 0);
    other.bears(0, 50);
    same("another object's calls", seen(one), before);
    refusals(one, 0, 0, 0, 0, 0);
    due("its ROW", one.judge(1, 5), -9);
    due("its TEXT", field(one, "1;"), 1);
    due("its IMAGE", one.restore(), 1);
    due("the other's TERMS", other.count(0), 2);
    refusals(other, 1, 0, 0, 0, 0);
  }

  private static void statements() {
    reads("A FIELD is read from a TEXT (64 bytes at most)");
    HalfOrNine x = new HalfOrNine();
    due("64 bytes", field(x, many(16, "o12;")), 16);
    feed(x, many(64, "g"));
    due("a 65th", x.feed(1, ';'), -6);
    due("are not read", x.field(), -1001);
    reads("STATEMENTS, each with \";\" behind");
    fieldIs("g4;o5;", 2);
    fieldIs("g4;o5", -1005);
    fieldIs("g4o5;", -1002);
    reads("\"g\" GROWS (0 .. 99 bushels without any pains)");
    due("GROWS 0", with("g0;").harvest(0, 0), 0);
    due("GROWS 99", with("g99;").harvest(0, 0), 99);
    due("without any pains", with("g7;p1,5;").harvest(0, 0), 7);
    fieldIs("g100;", -2000);
    reads("\"p\" COST (0 .. 99) \",\" GIVES (0 .. 99): a STEP of PAINS more (8 at most)");
    x = with("p0,98;p97,0;");
    due("STEPS", x.count(1), 2);
    due("COSTS", x.count(3), 97);
    due("GIVES", x.count(4), 98);
    fieldIs("p99,99;", 1);
    fieldIs("p100,0;", -2000);
    fieldIs("p0,100;", -2000);
    fieldIs(many(8, "p9,8;"), 8);
    fieldIs(many(9, "p9,8;"), -2040);
    reads("\"w\" CHANCE (1 .. 100 hundredths) \",\" TIMES (0 .. 300 hundredths): a WEATHER more (6 at most)");
    x = with("w1,300;w99,0;");
    due("CHANCE", x.weather(0, 0), 1);
    due("TIMES", x.weather(0, 1), 300);
    due("CHANCE", x.weather(1, 0), 99);
    due("TIMES", x.weather(1, 1), 0);
    fieldIs("w100,1;", 1);
    fieldIs("w0,1;", -2000);
    fieldIs("w101,1;", -2000);
    fieldIs("w1,301;", -2000);
    fieldIs(many(6, "w2,3;"), 6);
    fieldIs(many(7, "w2,3;"), -2030);
  }

  private static void moreStatements() {
    reads("\"o\" OTHER (0 .. 999: what other work is worth to him)");
    due("worth 30", with("g30;o30;", "f0").takes(0), 1);
    due("worth 31", with("g30;o31;", "f0").takes(0), 0);
    due("OTHER 999", with("o999;").set(1, 0), 999);
    fieldIs("o0;", 1);
    reads("\"m\" EDGE (0 .. 99) \",\" LESS (0 .. 10): the man's MIND");
    HalfOrNine x = with("m8,3;");
    due("the man's", x.mind(0, 10), 86);
    due("not the owner's", x.mind(1, 10), 100);
    fieldIs("m99,10;m0,0;", 2);
    fieldIs("m100,0;", -2000);
    fieldIs("m0,11;", -2000);
    reads("\"e\" EDGE \",\" LESS: the owner's MIND");
    x = with("e8,3;");
    due("the owner's", x.mind(1, 10), 86);
    due("not the man's", x.mind(0, 10), 100);
    fieldIs("e99,10;e0,0;", 2);
    fieldIs("e100,0;", -2000);
    fieldIs("e0,11;", -2000);
    reads("\"s\" SEED (0 .. 99) \",\" BY (0 the man, 1 the owner)");
    bothHave(with("s6,0;", "p1/2"), 20, 0, 4, 10);
    bothHave(with("s6,1;", "p1/2"), 20, 0, 10, 4);
    bothHave(with("s99,0;", "p1/2"), 20, 0, -89, 10);
    fieldIs("s0,0;", 1);
    fieldIs("s100,0;", -2000);
    fieldIs("s1,2;", -2000);
    reads("numbers have 1 to 3 digits, no 0 ahead of another");
    fieldIs("g1;g21;o321;", 3);
    fieldIs("o4321;", -1004);
    fieldIs("g;", -1001);
    fieldIs("o012;", -1002);
    fieldIs("g00;", -1002);
    reads("At least one STATEMENT");
    fieldIs("", -1000);
  }

  private static void faults() {
    reads("FAULT: kind 1 the place of the first byte with which no FIELD can go on (the end, if something lacks):"
        + " -1000 less the place");
    fieldIs("z", -1000);
    fieldIs("g1;Z", -1003);
    fieldIs("g1;p2.3;", -1005);
    fieldIs("g1;p2,", -1006);
    fieldIs("g100;w0,", -1008);
    reads("else kind 2 the place of the letter of the first STATEMENT that, behind all ahead of it in the text, is not as"
        + " it must be (a number out of range, no room; a CHANCE by which all would be above 100): -2000 less the place");
    fieldIs("g1;o2;w101,5;g100;", -2006);
    fieldIs(many(8, "p1,1;") + "g5;p1,1;", -2043);
    fieldIs("w60,1;g3;w41,1;", -2009);
    fieldIs("w60,1;g3;w40,1;", 3);
    reads("Without FAULT all of it comes (what is told again takes the place; STEPS, WEATHERS are more), with one nothing");
    HalfOrNine x = with("g3;p1,2;w5,6;");
    due("all of it", field(x, "g4;p7,8;w9,10;g5;"), 4);
    due("GROWS told again", x.harvest(0, 2), 5);
    due("STEPS are more", x.harvest(2, 2), 15);
    due("WEATHERS are more", x.weather(1, 1), 10);
    due("with a FAULT", field(x, "g6;p1,1;w1,1;g100;"), -2013);
    due("with another", field(x, "g6;p1,1;w1,1;g"), -1014);
    due("GROWS stays", x.harvest(0, 2), 5);
    due("STEPS stay", x.count(1), 2);
    due("WEATHERS stay", x.count(2), 3);
  }

  private static void fields() {
    reads("At first: GROWS 10, no STEPS, no WEATHERS, OTHER 0, both MINDS EDGE 99, LESS 10, SEED 0 by the man");
    HalfOrNine x = new HalfOrNine();
    due("STEPS", x.count(1), 0);
    due("no WEATHER but what CHANCES lack", x.count(2), 1);
    settingsAre(x, 10, 0, 0, 0, 99, 10, 99, 10);
    reads("What CHANCES lack of 100 is a WEATHER behind the others with TIMES 100 (none, if they lack nothing)");
    x = with("w30,0;w45,7;");
    due("what lacks", x.weather(2, 0), 25);
    due("its TIMES", x.weather(2, 1), 100);
    due("no other", x.weather(3, 0), -1);
    due("they lack nothing", with("w30,0;w70,7;").weather(2, 0), -1);
    reads("PAINS are 0 .. how many STEPS: so many STEPS are done, the first ones");
    x = with("g1;p1,2;p1,4;");
    int[] want = {1, 3, 7, -1};
    for (int pains = 0; pains < 4; pains++) due("harvest " + pains, x.harvest(pains, 0), want[pains]);
    reads("HARVEST of PAINS in a WEATHER: GROWS and GIVES of these STEPS, times TIMES, by 100, cut");
    x = with("g3;p0,4;w10,35;w10,250;");
    int[][] table = {{1, 7, 3}, {2, 17, 7}};
    for (int pains = 0; pains < 2; pains++) {
      for (int w = 0; w < 3; w++) due("harvest " + pains + " in " + w, x.harvest(pains, w), table[pains][w]);
    }
    reads("MIND of n bushels: 10 for each up to EDGE (below 0: 20 less for each that lacks), LESS for each above");
    x = with("m4,7;");
    int[][] minds = {{-3, -60}, {0, 0}, {1, 10}, {4, 40}, {5, 47}, {6, 54}};
    for (int[] m : minds) due("mind of " + m[0], x.mind(0, m[0]), m[1]);
  }

  private static void kinds() {
    reads("TERMS 0 .. 7 as they come, each of a KIND, read from a TEXT");
    HalfOrNine x = new HalfOrNine();
    String[] texts = {"t4+5", "p1/2", "y1/2+3", "f3", "x1/2+3", "w3", "f4", "w4"};
    int[] kinds = {5, 0, 4, 1, 3, 2, 1, 2};
    for (int t = 0; t < 8; t++) due("term " + texts[t], term(x, texts[t]), t);
    reads("KINDS: 0 PART; 1 SUM; 2 WAGE under SUM; 3 MIXED under PART; 4 YEARS under PART; 5 TOLD under SUM");
    for (int t = 0; t < 8; t++) due("KIND of " + texts[t], x.termOf(t, 0), kinds[t]);
    reads("\"p\" A \"/\" B (A, B 1 .. 99 each, A no more than B): PART");
    for (String s : new String[] {"p3/7", "p1/1", "p1/99", "p99/99"}) termIs(s, 0);
    termIs("p8/7", -23);
    termIs("p0/7", -21);
    termIs("p3/0", -23);
    termIs("p3/100", -23);
    termIs("p100/100", -21);
    reads("\"f\" N: SUM (0 .. 99)");
    for (String s : new String[] {"f0", "f99"}) termIs(s, 0);
    termIs("f100", -21);
    reads("\"w\" N: WAGE");
    for (String s : new String[] {"w0", "w99"}) termIs(s, 0);
    termIs("w100", -21);
    reads("\"x\" A \"/\" B \"+\" N: MIXED");
    for (String s : new String[] {"x3/7+0", "x7/7+99"}) termIs(s, 0);
    termIs("x8/7+1", -23);
    termIs("x3/7", -24);
    termIs("x3/7+100", -25);
    reads("\"y\" A \"/\" B \"+\" N: YEARS");
    for (String s : new String[] {"y3/7+0", "y7/7+99"}) termIs(s, 0);
    termIs("y8/7+1", -23);
    termIs("y3/7", -24);
    termIs("y3/7+100", -25);
    reads("\"t\" N \"+\" M: TOLD (M 0 .. 99)");
    for (String s : new String[] {"t0+0", "t99+99"}) termIs(s, 0);
    termIs("t100+0", -21);
    termIs("t6+100", -23);
  }

  private static void shares() {
    reads("The man's SHARE of a HARVEST h in a YEAR y (0 .. 9): PART h times A by B, cut");
    HalfOrNine x = with("", "p3/7");
    bothHave(x, 20, 0, 8, 12);
    bothHave(x, 20, 9, 8, 12);
    bothHave(x, 20, 10, TOLD + 6, TOLD + 6);
    reads("SUM h less N");
    bothHave(with("", "f6"), 20, 3, 14, 6);
    reads("WAGE N");
    bothHave(with("", "w6"), 20, 3, 6, 14);
    bothHave(with("", "w6"), 0, 3, 6, -6);
    reads("MIXED a PART's less N");
    bothHave(with("", "x3/7+5"), 20, 3, 3, 17);
    reads("YEARS h times (A plus N times y; B at most) over B, cut");
    x = with("", "y3/7+2");
    bothHave(x, 20, 0, 8, 12);
    bothHave(x, 20, 1, 14, 6);
    bothHave(x, 20, 2, 20, 0);
    bothHave(x, 20, 9, 20, 0);
    reads("TOLD h less N, and less M more, if h is twice N or more");
    x = with("", "t6+5");
    bothHave(x, 11, 0, 5, 6);
    bothHave(x, 12, 0, 1, 11);
    bothHave(x, 13, 0, 2, 11);
    reads("Below 0 he owes");
    bothHave(with("", "f6"), 2, 0, -4, 6);
    bothHave(with("", "x3/7+5"), 2, 0, -5, 7);
    bothHave(x, 0, 0, -6, 6);
    reads("SEED is taken from whose BY it is");
    bothHave(with("s4,0;", "w6"), 10, 0, 2, 4);
    bothHave(with("s4,1;", "w6"), 10, 0, 6, 0);
    reads("What he does not have the owner has (h less his SHARE, before SEED)");
    bothHave(with("s4,0;", "w6"), 2, 0, 2, -4);
    bothHave(with("s4,1;", "f6"), 20, 0, 14, 2);
  }

  private static void worths() {
    reads("WORTH of a TERM with PAINS to one of both: the sum over WEATHERS of CHANCE times MIND of what it has (in YEAR 0)");
    HalfOrNine x = with("g10;p3,0;w20,0;w30,150;", "p1/2", "y1/2+1");
    for (int t = 0; t < 2; t++) {
      due("worth to the man", x.worth(t, 0, 0), 4600);
      due("worth to the owner", x.worth(t, 0, 1), 4900);
    }
    reads("of the man's 1000 less for each unit of COST of STEPS done");
    due("worth to the man", x.worth(0, 1, 0), 1600);
    due("worth to the owner", x.worth(0, 1, 1), 4900);
    reads("BEST PAINS: those with the man's greatest WORTH, of several the least");
    x = with("g10;p2,3;p1,3;p1,1;", "f0");
    due("pains", x.pains(0), 2);
    reads("TAKES: whether that is OTHER times 1000 or more");
    due("less than that", x.set(1, 12), 0);
    due("takes", x.takes(0), 1);
    due("that", x.set(1, 13), 12);
    due("takes", x.takes(0), 1);
    due("more", x.set(1, 14), 13);
    due("takes", x.takes(0), 0);
    due("a WORTH of 9990 beside 10", with("g10;w1,99;o10;", "f0").takes(0), 0);
    due("a WORTH of 9990 beside 9", with("g10;w1,99;o9;", "f0").takes(0), 1);
    reads("MEAN: bushels that one has by CHANCE, by 100, in least terms (0 by 1)");
    x = with("g10;w15,150;", "p1/2");
    int[][] means = {{53, 10}, {109, 20}};
    for (int who = 0; who < 2; who++) {
      for (int part = 0; part < 2; part++) due("mean " + who + " " + part, x.mean(0, who, part), means[who][part]);
    }
    due("99", with("g1;w1,0;", "f0").mean(0, 0, 0), 99);
    due("by 100", with("g1;w1,0;", "f0").mean(0, 0, 1), 100);
    x.set(0, 0);
    due("0", x.mean(0, 0, 0), 0);
    due("by 1", x.mean(0, 0, 1), 1);
  }

  private static void proofIs(String field, int proof, long gap, long half) {
    HalfOrNine x = with(field);
    due("proof of " + field, x.proof(), proof);
    due("gap of " + field, x.gap(), gap);
    due("half of " + field, x.half(), half);
  }

  private static void proofs() {
    reads("PROOF: of PARTS A by 12 (A 0 .. 12) and SUMS 0 .. 60 (YEAR 0) that which he TAKES with the owner's greatest"
        + " WORTH at his BEST PAINS: of several PARTS first, then the least number: told as the A, or 100 and the SUM");
    proofIs("g12;p2,6;o5;", 111, 0, 2000);
    proofIs("g12;o5;", 5, 0, 1000);
    proofIs("g12;o5;e6,0;", 5, 0, 0);
    proofIs("g12;e9,0;", 0, 0, 3000);
    proofIs("g12;p2,6;o5;e8,0;", 6, 0, 0);
    proofIs("g99;o40;", 159, 0, 9000);
    proofIs("g99;o39;", 160, 0, 10000);
    proofIs("g99;o38;", 160, 1000, 10000);
    proofIs("g10;o10;", 12, 0, -9);
    reads("-9 none");
    due("proof", with("g12;o13;").proof(), -9);
    reads("GAP: the greatest owner's WORTH, if PAINS can be seen (for each PAINS a WAGE, the least 0 .. 99 with which he,"
        + " bound to these PAINS, TAKES), less that of PROOF");
    proofIs("g0;p2,20;w50,50;m6,0;", 3, 1500, 4000);
    proofIs("g0;p0,20;w50,0;", 1, 500, 4500);
    proofIs("g0;p99,99;p0,99;", 7, 16000, 83000);
    proofIs("g0;p99,99;p1,99;", 7, 0, 83000);
    proofIs("g99;p0,99;m0,5;o49;", 6, 1000, 0);
    proofIs("g99;p0,99;m0,7;o69;", 6, 0, 0);
    reads("0 at least");
    proofIs("g0;p2,20;w50,0;m6,0;", 3, 0, 2500);
    reads("-9, if there is no PROOF or there are no such PAINS");
    due("no PROOF", with("g12;o13;").gap(), -9);
    proofIs("g99;p0,99;o100;", 7, -9, -9);
    reads("HALF: the owner's WORTH by PROOF less that by a PART 1 by 2");
    due("half", with("g12;p2,6;o5;").half(), 2000);
    reads("-9, if there is no PROOF or he does not TAKE that");
    due("no PROOF", with("g12;o13;").half(), -9);
    due("he does not TAKE that", with("g12;o7;").half(), -9);
    due("he TAKES that", with("g12;o6;").half(), 0);
  }

  private static void saying() {
    reads("SAYS: he tells a HARVEST as up to c (0 .. 20) bushels less (0 at least) in each WEATHER");
    due("20 and 10", with("g10;w50,200;", "w0").less(0, 0, 0, 0), 20);
    due("20 of 30", with("g30;", "w0").less(0, 0, 0, 0), 20);
    due("5 of 5", with("g5;", "w0").less(0, 0, 0, 0), 5);
    reads("the owner LOOKS with hundredths: where he held something back and is found, he has nothing of that year's"
        + " (SHARE 0, nothing held back) and pays a FINE (0 .. 99)");
    HalfOrNine x = with("g10;", "w4");
    due("less by 71", x.less(0, 0, 71, 0), 10);
    due("less by 72", x.less(0, 0, 72, 0), 0);
    due("less by 35 with a FINE", x.less(0, 0, 35, 7), 10);
    due("less by 36 with a FINE", x.less(0, 0, 36, 7), 0);
    due("a FINE of 99", x.less(0, 0, 5, 99), 0);
    due("a FINE of 100", x.less(0, 0, 5, 100), -6);
    reads("SEED is taken all the same");
    due("his", with("g10;s3,0;", "w4").looks(0, 0, 0), 59);
    due("the owner's", with("g10;s3,1;", "w4").looks(0, 0, 0), 72);
    reads("BEST LESS: the c by which his WORTH by a TERM with PAINS is greatest (what he holds back is his whole), of"
        + " several the least");
    due("all", with("g10;", "p1/2").less(0, 0, 0, 0), 10);
    due("of several", with("g10;m5,0;", "p1/2").less(0, 0, 0, 0), 0);
    x = with("g0;p1,6;", "w0");
    due("with PAINS 0", x.less(0, 0, 0, 0), 0);
    due("with PAINS 1", x.less(0, 1, 0, 0), 6);
    reads("LOOKS: the least hundredths with which BEST LESS is 0; -9");
    due("looks", with("g10;", "w4").looks(0, 0, 0), 72);
    due("looks with a FINE", with("g10;", "w4").looks(0, 0, 7), 36);
    due("0", with("g10;", "f9").looks(0, 0, 0), 0);
    due("100", with("g10;", "w0").looks(0, 0, 0), 100);
    due("-9", with("g10;", "x1/2+9").looks(0, 0, 0), -9);
    due("-9", with("g2;w2,100;w1,200;w97,0;", "t1+99").looks(0, 0, 97), -9);
    due("100", with("g2;w2,100;w1,200;w97,0;", "t1+99").looks(0, 0, 98), 100);
  }

  private static void yearsAre(HalfOrNine x, int dung, int n, long set, long sum) {
    due("set from " + dung + " for " + n, x.years(0, dung, n, 0), set);
    due("sum from " + dung + " for " + n, x.years(0, dung, n, 1), sum);
  }

  private static void dung() {
    reads("DUNG (0 .. 3) lies on a FIELD: GROWS is 5 more for each");
    HalfOrNine x = with("g10;w50,50;", "f0");
    long[] sums = {7500, 11000, 15000, 18500};
    for (int d = 0; d <= 3; d++) yearsAre(x, d, 1, 0, sums[d]);
    due("DUNG 4", x.years(0, 4, 1, 0), TOLD_LONG + 6);
    reads("In a YEAR he may DUNG for COST 4");
    yearsAre(with("", "f0"), 0, 2, 1, 21000);
    yearsAre(with("w100,60;", "f0"), 0, 2, 0, 12000);
    reads("one more next YEAR (3 at most)");
    yearsAre(with("", "f0"), 2, 2, 1, 41000);
    yearsAre(with("", "f0"), 3, 2, 1, 46000);
    reads("without it one less next YEAR (0 at least)");
    yearsAre(with("w100,20;", "f0"), 3, 4, 0, 14000);
    yearsAre(with("w100,20;", "f0"), 0, 4, 0, 8000);
    reads("BEST YEARS: for n YEARS (1 .. 10) by a TERM from told DUNG on");
    for (int n = 1; n <= 10; n++) yearsAre(with("", "w5"), 3, n, 0, 5000 * n);
    due("0 YEARS", x.years(0, 0, 0, 0), TOLD_LONG + 4);
    due("11 YEARS", x.years(0, 0, 11, 0), TOLD_LONG + 6);
    reads("he takes each YEAR his BEST PAINS (ties: least)");
    yearsAre(with("g10;p4,8;", "y1/2+1"), 0, 2, 1, 20000);
    reads("and DUNGS or not so that the sum of his WORTHS is greatest (ties: not)");
    yearsAre(with("w100,60;", "f0"), 0, 3, 3, 19000);
    yearsAre(with("w100,80;", "f0"), 0, 2, 0, 16000);
    reads("a set of YEARS in which he DUNGS (bits); its sum");
    yearsAre(with("", "f0"), 0, 3, 3, 37000);
    yearsAre(with("m15,0;", "f0"), 0, 3, 3, 32000);
    yearsAre(with("", "f0"), 0, 10, 511, 184000);
    reads("LEAVING: the least pay (0 .. 99 a DUNG that lies there at the end, 1000 each in WORTH) for which he DUNGS in"
        + " the last YEAR");
    due("one DUNG more", with("", "f0").leaving(0, 1), 5);
    due("two DUNG more", with("", "f0").leaving(0, 2), 3);
    due("both YEARS for the pay", with("", "w0").leaving(0, 2), 5);
    due("one DUNG more of ten YEARS", with("", "f0").leaving(0, 10), 5);
    due("2005 of bushels and twice 3000 of pay for twice COST 4", with("g10;w99,80;m0,5;", "f0").leaving(0, 2), 3);
  }

  private static void sorts() {
    reads("SORTS of men: GOOD 0 .. 9 each has GIVES of each STEP times (10 and GOOD) by 10, cut");
    int[] gives = {7, 7, 8, 9, 9, 10, 11, 11, 12, 13};
    for (int good = 0; good <= 9; good++) {
      HalfOrNine x = with("g0;p1,7;p0,0;", "f0");
      x.set(1, gives[good] - 1);
      due("offer to GOOD " + good, x.offer(0, 0, good), 0);
      x.set(1, gives[good]);
      due("offer to GOOD " + good, x.offer(0, 0, good), -9);
    }
    due("each STEP is cut by itself", with("g0;p0,5;p0,5;o11;", "f0").offer(0, 0, 1), -9);
    due("each STEP is more", with("g0;p0,5;p0,5;o12;", "f0").offer(0, 0, 2), 0);
    due("GROWS is the same", with("g10;o11;", "f0").offer(0, 0, 9), -9);
    reads("OFFER of two TERMS: a man of a SORT takes that of which his WORTH (his BEST PAINS) is greater (ties: the first)");
    HalfOrNine x = with("g10;p3,10;", "f12", "p1/2");
    int[] goods = {0, 4, 5};
    int[] answers = {1, 0, 0};
    int[] turned = {0, 0, 1};
    for (int i = 0; i < 3; i++) {
      due("offer to GOOD " + goods[i], x.offer(0, 1, goods[i]), answers[i]);
      due("offer turned", x.offer(1, 0, goods[i]), turned[i]);
    }
    reads("PARTS THEM: whether GOOD 0 and a told GOOD take unlike ones: 1, 0");
    due("unlike ones", x.parts(0, 1, 5), 1);
    due("like ones", x.parts(0, 1, 1), 0);
    HalfOrNine y = with("g0;p0,10;", "w10", "f0");
    due("GOOD 0 and GOOD 1", y.parts(0, 1, 1), 1);
    reads("or none, if that is below OTHER: 0, 1, -9");
    x.set(1, 7);
    due("one is below", x.offer(0, 1, 0), 1);
    due("one is below, turned", x.offer(1, 0, 0), 0);
    x.set(1, 8);
    due("none", x.offer(0, 1, 0), -9);
    due("none", x.offer(0, 1, 1), -9);
    due("the first", x.offer(0, 1, 4), 0);
    reads("to take none is another answer than to take one");
    due("none and one", x.parts(0, 1, 4), 1);
    due("none and none", x.parts(0, 1, 1), 0);
  }

  /** Each of its own object: what another call had in mind plays no part, either. */
  private static void nothingInMind() {
    says("GOOD, HAIL, DUNG and YEARS are in mind where the document names them, and in no other call");
    due("harvest", with("g10;p1,10;").harvest(1, 0), 20);
    due("worth", with("g10;p1,10;", "f5").worth(0, 1, 0), 14000);
    due("pains without GOOD", with("g10;p10,10;", "f0").pains(0), 0);
    due("pains without DUNG", with("g10;p2,5;w100,50;", "f0").pains(0), 0);
    due("pains without HAIL", with("g0;p99,50;w100,200;", "f0").pains(0), 1);
    due("takes", with("g10;p10,10;o11;", "f0").takes(0), 0);
    due("mean", with("g10;p1,10;", "f5").mean(0, 0, 0), 15);
    due("proof", with("g10;p3,10;o17;").proof(), 12);
    due("less", with("g0;p1,10;", "w0").less(0, 1, 0, 0), 10);
    due("less without HAIL", with("g10;w1,300;w99,0;", "w4").less(0, 0, 80, 0), 20);
    due("looks without GOOD", with("g0;p1,10;", "w4").looks(0, 1, 0), 72);
    due("looks without HAIL", with("g10;w1,300;w99,0;", "w4").looks(0, 0, 0), 84);
    due("years", with("g10;p3,10;", "f0").years(0, 0, 1, 1), 17000);
    due("own without GOOD", with("g0;p0,10;", "f0").own(0, 10), 1);
    due("own without HAIL", with("g0;p99,50;w100,200;", "f0").own(0, 0), 10);
    due("bears", with("g0;p0,10;", "p1/2").bears(0, 50), 2500);
    due("ruin without GOOD", with("g0;p0,10;", "f0").ruin(0, 1, 1, 11, 0, 1), 0);
    due("ruin without HAIL", with("w19,0;w20,50;", "f0").ruin(0, 0, 1, 6, 0, 1), 0);
    due("owes without GOOD", with("g0;p0,10;", "f0").owes(0, 1, 1, 0, 1), 10);
    due("owes without HAIL", with("w19,0;w20,50;", "f0").owes(0, 0, 1, 0, 1), 5);
    due("ruins without GOOD", with("g0;p0,10;", "f0").ruins(0, 1, 1, 11, 0, 1, 1), 1);
    due("no ruins without GOOD", with("g0;p0,10;", "f0").ruins(0, 1, 1, 10, 0, 1, 1), 0);
    due("ruins without HAIL", with("w19,0;w20,50;", "f0").ruins(0, 0, 1, 6, 0, 1, 1), 1);
    HalfOrNine x = with("w19,0;w20,50;");
    x.row(5);
    due("judge", x.judge(0, 1), -9);
    x = with("", "y1/2+1");
    x.years(0, 3, 10, 0);
    due("worth behind years", x.worth(0, 0, 0), 5000);
    due("mean behind years", x.mean(0, 0, 0), 5);
  }

  private static void ownIs(String field, String term, int b, int want) {
    due("own " + b + " by " + term + " on " + field, with(field, term).own(0, b), want);
  }

  private static void owns() {
    reads("OWN: beside the FIELD he has one that GIVES b bushels a STEP to him alone (0 .. 99), with STEPS at the same"
        + " COSTS, done behind those of the FIELD");
    ownIs("g10;p3,10;", "p1/2", 99, 1);
    ownIs("g10;p3,10;", "p1/2", 0, 10);
    ownIs("g10;p3,10;", "p1/2", 100, -6);
    ownIs("g0;p1,9;p4,9;", "p1/3", 5, 2);
    reads("of all pairs (PAINS, OWN STEPS, together no more than how many STEPS there are; own ones cost as the next"
        + " STEPS) that with his greatest WORTH (MIND of SHARE and own bushels)");
    ownIs("g0;p1,9;p1,1;", "f0", 4, 11);
    ownIs("g0;p1,9;p1,9;m9,0;", "f0", 8, 10);
    ownIs("g0;p0,9;p0,9;p0,9;", "f0", 10, 3);
    reads("10 times PAINS and OWN STEPS, of several the least");
    ownIs("g0;p1,9;p4,9;", "p1/3", 4, 1);
    ownIs("g0;p1,9;p1,9;m9,0;", "f0", 9, 1);
    ownIs("g0;p0,9;p0,9;p0,9;", "f0", 8, 30);
  }

  private static void hail() {
    reads("HAIL: a WEATHER more in mind with told CHANCE (0 .. 50), TIMES 0");
    HalfOrNine x = with("", "p1/2");
    due("of 20", x.bears(0, 20), 1000);
    due("of 0", x.bears(0, 0), 0);
    due("of 1", x.bears(0, 1), 50);
    due("of 50", x.bears(0, 50), 2500);
    due("nothing of 198", with("g99;p0,99;", "p1/2").bears(0, 50), 49500);
    due("of 51", x.bears(0, 51), TOLD_LONG + 6);
    due("in mind only", x.count(2), 1);
    reads("the others' CHANCES less in step (CHANCE times (100 less it), over 100, cut; what lacks is TIMES 100)");
    due("33 by 90 is 29", with("w33,200;", "p1/2").bears(0, 10), 700);
    reads("BEARS: the owner's WORTH by a TERM without HAIL less with it (his BEST PAINS for each)");
    due("PAINS 1 and 0", with("g10;p4,10;", "p1/2").bears(0, 30), 6500);
  }

  /** By seed 1 the DRAWS are 38, 58, 13, 15, 51, 27, 10, 19, 12, 86: HARVESTS 20, 10, 5, 5, 20, 5, 5, 5, 5, 10. */
  private static final String BY_DRAWS = "w10,0;w28,50;w20,200;";

  private static void debts() {
    reads("DEBTS: YEARS by a seed z: each with a WEATHER by a DRAW (z becomes z times 1103515245 plus 12345 (an int,"
        + " wrapping); (z without its sign's bit, over 65536, cut) modulo 100");
    HalfOrNine x = with(BY_DRAWS, "f0");
    int[] has = {20, 30, 35, 40, 60, 65, 70, 75, 80, 90};
    for (int n = 1; n <= 10; n++) due("owes behind " + n, x.owes(0, 0, 1, 0, n), has[n - 1]);
    due("DRAW 47 by seed 3", with("w47,0;", "f0").owes(0, 0, 3, 0, 1), 10);
    due("DRAW 47 by seed 3", with("w48,0;", "f0").owes(0, 0, 3, 0, 1), 0);
    due("DRAW 55 by seed 5", with("w55,0;", "f0").owes(0, 0, 5, 0, 1), 10);
    due("DRAW 55 by seed 5", with("w56,0;", "f0").owes(0, 0, 5, 0, 1), 0);
    int[] seeds = {-1, MOST, LEAST, 0, 1 << 30};
    int[] owes = {270, 270, 295, 295, 325};
    for (int i = 0; i < seeds.length; i++) due("by seed " + seeds[i], x.owes(0, 0, seeds[i], 0, 30), owes[i]);
    reads("the first WEATHER below whose CHANCES together it is");
    due("38 is not below 38", with("w38,0;", "f0").owes(0, 0, 1, 0, 1), 10);
    due("38 is below 39", with("w39,0;", "f0").owes(0, 0, 1, 0, 1), 0);
    reads("his SHARE (less SEED, where that is his), less a told LIFE (0 .. 99), is added to what he has (0 at first)");
    due("SEED his", with(BY_DRAWS + "s3,0;", "f0").owes(0, 0, 1, 4, 3), 14);
    due("SEED the owner's", with(BY_DRAWS + "s3,1;", "f0").owes(0, 0, 1, 4, 3), 23);
    due("LIFE 99", x.owes(0, 0, 1, 99, 2), -168);
    due("LIFE 100", x.owes(0, 0, 1, 100, 2), TOLD + 6);
    reads("RUIN: the first YEAR (of n, 1 .. 30; YEARS of a TERM 0 .. 9, then 9) behind which it is below 0 less a told"
        + " CREDIT (0 .. 999); -9");
    due("below 0", x.ruin(0, 0, 1, 9, 0, 10), 8);
    due("not below 0 less 1", x.ruin(0, 0, 1, 9, 1, 10), -9);
    due("not yet", x.ruin(0, 0, 1, 9, 0, 8), -9);
    due("31 YEARS", x.ruin(0, 0, 1, 9, 0, 31), -6);
    due("0 YEARS", x.ruin(0, 0, 1, 9, 0, 0), -4);
    due("CREDIT 999", x.ruin(0, 0, 1, 9, 999, 30), -9);
    due("CREDIT 1000", x.ruin(0, 0, 1, 9, 1000, 1), -6);
    HalfOrNine y = with("g20;", "y1/20+1");
    due("ruin as his PART rises", y.ruin(0, 0, 1, 5, 9, 30), 3);
    due("none as his PART rises", y.ruin(0, 0, 1, 5, 10, 30), -9);
    due("then 9", y.owes(0, 0, 1, 5, 12), 15);
    reads("OWES: what he has behind n YEARS (RUIN or not)");
    due("behind RUIN", x.owes(0, 0, 1, 9, 10), 0);
    reads("A ROW of HARVESTS (16 at most)");
    for (int i = 1; i <= 16; i++) due("row", x.row(20), i);
    due("a 17th", x.row(20), -6);
    reads("JUDGED by a seed: the first YEAR whose HARVEST (PAINS told) is not so; -9");
    due("the second", x.judge(0, 1), 1);
    int[] harvests = {20, 10, 5, 6, 21};
    for (int i = 0; i < 5; i++) x.row(harvests[i]);
    due("the fourth", x.judge(0, 1), 3);
    for (int i = 0; i < 3; i++) x.row(harvests[i]);
    due("none", x.judge(0, 1), -9);
  }

  private static void onceMore() {
    reads("of like sums he does not DUNG, YEAR by YEAR from the first on");
    yearsAre(with("m20,0;", "f0"), 3, 3, 2, 56000);
    yearsAre(with("m20,0;", "f0"), 3, 4, 2, 76000);
    reads("TERMS have numbers as FIELDS have, and their FAULT goes from the left (a number out of range at its first digit)");
    termIs("f007", -22);
    termIs("w1000", -21);
    termIs("p100/5", -21);
    termIs("p5/100x", -23);
    termIs("t5?+100", -22);
    reads("a FIELD that is read comes to what there is");
    HalfOrNine x = with("g3;p1,2;m4,5;");
    field(x, "p6,7;e8,9;");
    settingsAre(x, 3, 0, 0, 0, 4, 5, 8, 9);
    due("STEPS", x.count(3), 7);
    reads("SEED is taken in OWN and GAP, too, where it is his");
    ownIs("g0;p3,0;s10,0;", "w0", 2, 1);
    ownIs("g0;p3,0;s10,1;", "w0", 2, 0);
    due("in GAP", with("g0;p2,20;w50,50;m6,0;s1,0;").gap(), 500);
    reads("what is found by LOOKS is weighed by hundredths, nothing is cut");
    x = with("g1;w99,0;", "w0");
    due("by 99", x.less(0, 0, 99, 0), 1);
    due("by 100", x.less(0, 0, 100, 0), 0);
    reads("of a HARVEST 0 nothing is held back");
    due("no FINE of it", with("g10;w40,0;", "w0").looks(0, 0, 5), 50);
    reads("YEARS are counted from 0 on");
    due("the first YEAR of whose", with("", "y1/2+1").whose(0, 10, 0, 0), 5);
    due("the first of RUIN", with("", "w0").ruin(0, 0, 1, 1, 0, 1), 0);
    due("the first of years", with("", "f0").years(0, 0, 2, 0), 1);
    x.row(9);
    due("the first JUDGED", x.judge(0, 1), 0);
    reads("six WEATHERS are told at most, what CHANCES lack beside");
    x = with(many(6, "w16,1;"));
    due("seven", x.count(2), 7);
    due("a seventh told", field(x, "w4,1;"), -2000);
  }

  private static void onceMoreAtTheEnd() {
    reads("-4 of any number goes ahead of -6");
    HalfOrNine x = with("", "f0");
    due("whose", x.whose(0, 1000, -1, 0), TOLD + 4);
    due("less", x.less(0, 0, 101, -1), -4);
    due("years", x.years(0, 4, 0, 0), TOLD_LONG + 4);
    due("ruin", x.ruin(0, 0, 1, 100, 1000, 0), -4);
    due("owes", x.owes(0, 0, 1, 100, 0), TOLD + 4);
    due("ruins", x.ruins(0, 0, 1, 100, 1000, 31, 0), -4);
    refusals(x, 0, 0, 0, 6, 0);
    reads("the TEXT is empty behind a FAULT, too, and its 64 bytes play no part in it");
    feed(x, many(16, "g10;").substring(0, 63) + "g");
    due("a full TEXT", x.count(6), 64);
    due("its FAULT", x.field(), -1063);
    due("is empty", x.count(6), 0);
    feed(x, many(15, "g10;") + "g100");
    due("its FAULT is at the end", x.field(), -1064);
    due("is empty", x.count(6), 0);
    due("a TERM's FAULT", term(x, "f1;"), -22);
    due("is empty", x.count(6), 0);
    reads("it is REFUSALS that are told as 1000000000 (4000000000000000000) less them");
    HalfOrNine y = with("g12;o13;", "x1/2+9");
    due("-9 of gap", y.gap(), -9);
    due("-9 of half", y.half(), -9);
    due("below 0 of whose", y.whose(0, 2, 0, 0), -8);
    due("below 0 of mean", y.mean(0, 0, 0), -3);
    due("below 0 of owes", y.owes(0, 0, 1, 0, 2), -6);
    due("below 0 of worth", y.worth(0, 0, 0), -6000);
    refusals(y, 0, 0, 0, 0, 0);
  }

  private static void image() {
    reads("THE IMAGE: all that there is, but it, the TEXT, the ROW, REFUSALS");
    HalfOrNine x = with("g3;p1,2;w5,6;o7;m8,9;e9,8;s7,1;", "f5");
    x.pains(1);
    x.row(4);
    feed(x, "o6;");
    String before = seen(x);
    x.image();
    due("the TEXT", x.field(), 1);
    field(x, "g1;p1,1;w1,1;m1,1;e1,1;s1,0;");
    term(x, "w1");
    x.judge(0, 1);
    feed(x, "g77");
    x.row(5);
    x.row(6);
    x.pains(9);
    due("restore", x.restore(), 1);
    due("the TEXT is none of it", x.count(6), 3);
    due("the ROW is none of it", x.count(5), 2);
    refusals(x, 2, 0, 0, 0, 0);
    due("the TEXT that is fed then", field(x, ";"), 1);
    due("GROWS", x.set(0, 3), 77);
    x.judge(0, 1);
    x.row(4);
    feed(x, "o6;");
    same("all but them", seen(x), before);
    x.image();
    reads("THE IMAGE stays when it is RESTORED");
    for (int i = 0; i < 3; i++) {
      x.set(0, 50 + i);
      due("restore", x.restore(), 1);
      same("restore", seen(x), before);
    }
  }

  private static void refused() {
    reads("the call answers the number, the first that fits in the order in which it tells them; nothing changes but how"
        + " many there were");
    HalfOrNine x = with("p1,2;w5,6;", "f0");
    String before = seen(x);
    due("-1 ahead of -2", x.termOf(1, 4), -1);
    due("-2 ahead of -4", x.set(8, -1), -2);
    due("-4 ahead of -6", x.ruins(0, 0, 1, -1, 1000, 31, 51), -4);
    due("-1 ahead of all", x.years(1, -1, 11, 2), TOLD_LONG + 1);
    due("-2 ahead of -6", x.years(0, 4, 11, 2), TOLD_LONG + 2);
    same("they", seen(x), before);
    refusals(x, 2, 2, 0, 1, 0);
    reads("-1 NOBODY: no such TERM, PAINS, WEATHER");
    due("TERM", x.pains(1), -1);
    due("PAINS", x.harvest(2, 0), -1);
    due("WEATHER", x.harvest(0, 2), -1);
    reads("-2 OTHER: what");
    due("what", x.weather(0, 2), -2);
    reads("-3 STATE: it is not as told");
    due("no IMAGE", x.restore(), -3);
    reads("-4 BELOW: a number below the least");
    due("below", x.row(-1), -4);
    reads("-6 ROOM: a number above the greatest, no room");
    due("above", x.row(1000), -6);
    feed(x, many(64, "g"));
    due("no room", x.feed(1, 'g'), -6);
    refusals(x, 5, 3, 1, 2, 2);
    reads("Where WORTHS or bushels that may be below 0 are answered (told at the call), 1000000000 less them (-1 as"
        + " 1000000001)");
    due("whose", x.whose(1, 0, 0, 0), 1000000001);
    due("mind", x.mind(0, 1000), 1000000006);
    due("mean", x.mean(0, 0, 2), 1000000002);
    due("owes", x.owes(0, 0, 0, 0, 0), 1000000004);
    reads("of longs 4000000000000000000 less");
    due("worth", x.worth(0, 0, 2), 4000000000000000001L);
    due("years", x.years(0, 0, 0, 2), 4000000000000000002L);
    due("bears", x.bears(0, -1), 4000000000000000004L);
    due("bears", x.bears(0, 51), 4000000000000000006L);
    refusals(x, 7, 5, 1, 4, 4);
  }

  private static void firstPromises() {
    reads("`HalfOrNine()`: No STEPS, no TERMS.");
    HalfOrNine x = new HalfOrNine();
    due("STEPS", x.count(1), 0);
    due("TERMS", x.count(0), 0);
    reads("n (1 .. 8) bytes come to the TEXT, the lowest first: how many it has. -4; -6 (above 64, too).");
    due("feed", x.feed(3, 0x3b3767L), 3);
    due("feed", x.feed(3, 0x3b386fL), 6);
    due("feed 0", x.feed(0, 0), -4);
    due("feed 9", x.feed(9, 0), -6);
    reads("The TEXT, which has none then, is a FIELD: how many STATEMENTS; the FAULT (nothing is counted).");
    due("field", x.field(), 2);
    due("bytes", x.count(6), 0);
    settingsAre(x, 7, 8, 0, 0, 99, 10, 99, 10);
    due("a FAULT", field(x, "g7;o"), -1004);
    due("another", field(x, "g7;m1,11;"), -2003);
    due("bytes", x.count(6), 0);
    refusals(x, 0, 0, 0, 1, 1);
    reads("The TEXT, which has none then, becomes a TERM: its number; a FAULT: -20 less its place (the first byte that can"
        + " not stand; of a number out of range, of a B below A, its first digit; the end). -6 8 (it stays).");
    for (int t = 0; t < 8; t++) due("term", term(x, "x1/2+" + t), t);
    due("bytes", x.count(6), 0);
    due("a ninth", term(x, "p2/3"), -6);
    due("it stays", x.count(6), 4);
    refusals(x, 0, 0, 0, 1, 2);
    termIs("", -20);
    termIs("q1/2", -20);
    termIs("p12;34", -23);
    termIs("x12/34+567", -27);
    termIs("y12/11+3", -24);
    termIs("t12+", -24);
    reads("Of a TERM: 0 KIND, 1 A (N of SUM, WAGE, TOLD), 2 B (0 of these), 3 N of MIXED, YEARS, M of TOLD (else 0). -1; -2.");
    HalfOrNine y = with("", "p3/4", "f5", "w6", "x5/6+7", "y7/8+9", "t10+11");
    int[][] want = {{0, 3, 4, 0}, {1, 5, 0, 0}, {2, 6, 0, 0}, {3, 5, 6, 7}, {4, 7, 8, 9}, {5, 10, 0, 11}};
    for (int t = 0; t < 6; t++) {
      for (int what = 0; what < 4; what++) due("termOf " + t + " " + what, y.termOf(t, what), want[t][what]);
    }
    due("no TERM", y.termOf(6, 4), -1);
    due("no what", y.termOf(5, 4), -2);
  }

  private static void fieldPromises() {
    reads("GROWS (what 0), OTHER (1), SEED (2), BY (3), the man's EDGE (4), LESS (5), the owner's EDGE (6), LESS (7): what"
        + " it was. -2; -4; -6.");
    HalfOrNine x = with("g11;o12;s13,1;m14,5;e16,7;", "f0");
    int[] was = {11, 12, 13, 1, 14, 5, 16, 7};
    int[] then = {21, 0, 23, 0, 4, 3, 2, 1};
    for (int what = 0; what < 8; what++) due("set " + what, x.set(what, then[what]), was[what]);
    due("GROWS", x.harvest(0, 0), 21);
    bothHave(x, 30, 0, 7, 0);
    due("the man's MIND", x.mind(0, 6), 46);
    due("the owner's MIND", x.mind(1, 6), 24);
    due("no what", x.set(8, 0), -2);
    due("below", x.set(5, -1), -4);
    due("above", x.set(5, 11), -6);
    due("above", x.set(1, 1000), -6);
    due("the greatest", x.set(1, 999), 0);
    reads("Of a WEATHER (the one that CHANCES lack, too): CHANCE (what 0), TIMES (1). -1; -2.");
    x = with("g10;p1,1;w12,34;", "f12", "p1/1");
    int[][] want = {{12, 34}, {88, 100}};
    for (int w = 0; w < 2; w++) {
      for (int what = 0; what < 2; what++) due("weather " + w + " " + what, x.weather(w, what), want[w][what]);
    }
    due("no WEATHER", x.weather(2, 2), -1);
    due("no what", x.weather(1, 2), -2);
    reads("HARVEST. -1 either.");
    due("harvest", x.harvest(1, 0), 3);
    due("no PAINS", x.harvest(2, 0), -1);
    due("no WEATHER", x.harvest(0, 2), -1);
    reads("WHOSE: what the man (who 0), the owner (1) has of a HARVEST (0 .. 999) by a TERM in a YEAR, SEED taken. Refused"
        + " as told: -1 (TERM, who); -4; -6 (999; 9).");
    bothHave(x, 999, 9, 987, 12);
    due("no TERM", x.whose(2, 0, 0, 0), TOLD + 1);
    due("no who", x.whose(0, 0, 0, 2), TOLD + 1);
    bothHave(x, -1, 0, TOLD + 4, TOLD + 4);
    bothHave(x, 0, -1, TOLD + 4, TOLD + 4);
    bothHave(x, 1000, 0, TOLD + 6, TOLD + 6);
    bothHave(x, 0, 10, TOLD + 6, TOLD + 6);
    reads("MIND of n bushels (-999 .. 999) to one of both. Refused as told: -1 who; -4; -6.");
    due("mind", x.mind(0, -999), -19980);
    due("mind", x.mind(1, 999), 9990);
    due("no who", x.mind(-1, 0), TOLD + 1);
    due("below", x.mind(0, -1000), TOLD + 4);
    due("above", x.mind(1, 1000), TOLD + 6);
  }

  private static void worthPromises() {
    reads("WORTH (a long) in YEAR 0. Refused as told: -1 any.");
    HalfOrNine x = with("g10;p3,10;", "y1/2+1", "x1/2+9");
    due("worth", x.worth(0, 1, 0), 7000);
    due("no TERM", x.worth(2, 0, 0), TOLD_LONG + 1);
    due("no PAINS", x.worth(0, 2, 0), TOLD_LONG + 1);
    due("no who", x.worth(0, 0, 2), TOLD_LONG + 1);
    reads("BEST PAINS in YEAR 0. -1.");
    due("pains", x.pains(0), 1);
    due("no TERM", x.pains(2), -1);
    due("of YEAR 0", with("g10;p3,5;", "y1/2+1").pains(0), 0);
    reads("TAKES: 1, 0. -1.");
    due("takes", x.takes(0), 1);
    due("no TERM", x.takes(2), -1);
    x.set(1, 8);
    due("takes", x.takes(0), 0);
    x.set(1, 0);
    reads("MEAN of one of both at his BEST PAINS (YEAR 0): above (part 0), below the line. Refused as told: -1; -2.");
    due("above", x.mean(0, 0, 0), 10);
    due("below", x.mean(0, 1, 1), 1);
    due("no TERM", x.mean(2, 0, 0), TOLD + 1);
    due("no who", x.mean(0, 2, 0), TOLD + 1);
    due("no part", x.mean(0, 0, 2), TOLD + 2);
    refusals(x, 7, 1, 0, 0, 0);
    reads("PROOF; -9.");
    due("proof", x.proof(), 117);
    reads("GAP; -9.");
    due("gap", x.gap(), 0);
    reads("HALF; -9.");
    due("half", x.half(), 7000);
    reads("BEST LESS of a TERM with PAINS. -1; -4; -6 (100; 99).");
    due("less", x.less(0, 0, 100, 99), 0);
    due("less", x.less(0, 1, 0, 0), 20);
    due("no TERM", x.less(2, 0, 0, 0), -1);
    due("no PAINS", x.less(0, 2, 0, 0), -1);
    due("below", x.less(0, 0, -1, 0), -4);
    due("above 100", x.less(0, 0, 101, 0), -6);
    due("above 99", x.less(0, 0, 0, 100), -6);
    reads("LOOKS; -9. -1; -4; -6 99.");
    due("looks", x.looks(0, 0, 0), 50);
    due("looks", x.looks(1, 0, 0), -9);
    due("no TERM", x.looks(2, 0, 0), -1);
    due("no PAINS", x.looks(0, 2, 0), -1);
    due("below", x.looks(0, 0, -1), -4);
    due("above", x.looks(0, 0, 100), -6);
    refusals(x, 11, 1, 0, 2, 3);
  }

  private static void yearPromises() {
    reads("BEST YEARS: the set (a long; what 0), its sum (1). Refused as told: -1; -2; -4; -6 (3; 10).");
    HalfOrNine x = with("", "f0", "w12");
    yearsAre(x, 0, 2, 1, 21000);
    due("no TERM", x.years(2, 0, 1, 0), TOLD_LONG + 1);
    due("no what", x.years(0, 0, 1, 2), TOLD_LONG + 2);
    due("below", x.years(0, -1, 1, 0), TOLD_LONG + 4);
    due("above 3", x.years(0, 4, 1, 0), TOLD_LONG + 6);
    due("above 10", x.years(0, 0, 11, 0), TOLD_LONG + 6);
    reads("LEAVING from DUNG 0 with n YEARS; -9. -1; -4; -6 10.");
    due("leaving", x.leaving(1, 1), 5);
    due("no TERM", x.leaving(2, 1), -1);
    due("below", x.leaving(0, 0), -4);
    due("above", x.leaving(0, 11), -6);
    reads("OFFER of two TERMS to a man of a SORT. -1 (TERM, GOOD); the answer 0, 1; -9.");
    due("offer", x.offer(0, 1, 0), 1);
    due("offer", x.offer(1, 0, 9), 0);
    due("no TERM", x.offer(2, 0, 0), -1);
    due("no other TERM", x.offer(0, 2, 0), -1);
    due("no GOOD", x.offer(0, 1, 10), -1);
    reads("PARTS THEM. -1 (GOOD 0, too).");
    due("parts", x.parts(0, 1, 9), 0);
    due("GOOD 0", x.parts(0, 1, 0), -1);
    due("GOOD 10", x.parts(0, 1, 10), -1);
    due("no TERM", x.parts(0, 2, 1), -1);
    reads("OWN. -1; -4; -6 99.");
    due("own", x.own(0, 99), 0);
    due("no TERM", x.own(2, 0), -1);
    due("below", x.own(0, -1), -4);
    due("above", x.own(0, 100), -6);
    reads("BEARS (a long). Refused as told: -1; -4; -6 50.");
    due("bears", x.bears(1, 50), -100 * 40 + 50 * 40 + 50 * 240);
    due("no TERM", x.bears(2, 0), TOLD_LONG + 1);
    due("below", x.bears(0, -1), TOLD_LONG + 4);
    due("above", x.bears(0, 51), TOLD_LONG + 6);
    refusals(x, 10, 1, 0, 4, 5);
  }

  private static void debtPromises() {
    reads("RUIN; -9. -1 either; -4; -6 (99; 999; 30).");
    HalfOrNine x = with(BY_DRAWS, "f0");
    due("ruin", x.ruin(0, 0, 1, 9, 0, 30), 8);
    due("no TERM", x.ruin(1, 0, 1, 0, 0, 1), -1);
    due("no PAINS", x.ruin(0, 1, 1, 0, 0, 1), -1);
    int[][] refused = {{-1, 0, 1}, {0, -1, 1}, {0, 0, 0}, {100, 0, 1}, {0, 1000, 1}, {0, 0, 31}};
    for (int i = 0; i < 6; i++) {
      due("ruin " + i, x.ruin(0, 0, 1, refused[i][0], refused[i][1], refused[i][2]), i < 3 ? -4 : -6);
    }
    reads("OWES. Refused as told: -1 either; -4; -6 (99; 30).");
    due("owes", x.owes(0, 0, 1, 9, 9), -1);
    due("no TERM", x.owes(1, 0, 1, 0, 1), TOLD + 1);
    due("no PAINS", x.owes(0, 1, 1, 0, 1), TOLD + 1);
    for (int i = 0; i < 6; i++) {
      if (refused[i][1] == 0) due("owes " + i, x.owes(0, 0, 1, refused[i][0], refused[i][2]), TOLD + (i < 3 ? 4 : 6));
    }
    reads("How many of n (1 .. 50) seeds z, z and 1, .. bring RUIN in m YEARS. -1 either; -4; -6.");
    due("one", x.ruins(0, 0, 1, 9, 0, 9, 1), 1);
    due("none", x.ruins(0, 0, 1, 9, 0, 8, 1), 0);
    int ruined = 0;
    for (int z = 1; z <= 50; z++) ruined += x.ruin(0, 0, z, 9, 0, 9) >= 0 ? 1 : 0;
    due("of fifty", x.ruins(0, 0, 1, 9, 0, 9, 50), ruined);
    due("no TERM", x.ruins(1, 0, 1, 0, 0, 1, 1), -1);
    due("no PAINS", x.ruins(0, 1, 1, 0, 0, 1, 1), -1);
    for (int i = 0; i < 6; i++) {
      due("ruins " + i, x.ruins(0, 0, 1, refused[i][0], refused[i][1], refused[i][2], 1), i < 3 ? -4 : -6);
    }
    due("0 seeds", x.ruins(0, 0, 1, 0, 0, 1, 0), -4);
    due("51 seeds", x.ruins(0, 0, 1, 0, 0, 1, 51), -6);
    refusals(x, 6, 0, 0, 9, 9);
  }

  private static void lastPromises() {
    reads("A HARVEST more of the ROW: how many. -4; -6 (999; 16, too).");
    HalfOrNine x = with("p4,5;", "w1", "w2");
    due("the least", with("").row(0), 1);
    due("the greatest", with("").row(999), 1);
    for (int i = 1; i <= 16; i++) due("row", x.row(10), i);
    due("below", x.row(-1), -4);
    due("above", x.row(1000), -6);
    due("a 17th", x.row(10), -6);
    reads("JUDGED; -9 (whichever it answers, the ROW has none then). -1 (it stays).");
    due("no PAINS", x.judge(2, 1), -1);
    due("it stays", x.count(5), 16);
    due("judge", x.judge(0, 1), -9);
    due("none then", x.count(5), 0);
    x.row(10);
    due("judge", x.judge(1, 1), 0);
    due("none then", x.count(5), 0);
    reads("It is RESTORED: how many TERMS. -3 there is none.");
    due("none", x.restore(), -3);
    reads("THE IMAGE is taken: how many TERMS.");
    due("image", x.image(), 2);
    term(x, "w3");
    due("restore", x.restore(), 2);
    due("TERMS", x.count(0), 2);
    reads("0 TERMS, 1 STEPS, 2 WEATHERS (with the one that CHANCES lack), 3 all COSTS, 4 all GIVES, 5 HARVESTS of the ROW, 6"
        + " bytes of the TEXT, 11 .. 16 REFUSALS -1 .. -6. -9 for another what.");
    field(x, "p2,3;p1,1;w50,1;");
    x.row(3);
    feed(x, "g9;o8");
    int[] want = {2, 3, 2, 7, 9, 1, 5};
    for (int what = 0; what < 7; what++) due("count " + what, x.count(what), want[what]);
    x.set(9, 0);
    x.set(9, 0);
    refusals(x, 1, 2, 1, 1, 2);
    for (int what : new int[] {-1, 7, 8, 9, 10, 17}) due("count " + what, x.count(what), -9);
  }

  private static String plain(String s) {
    return s.replaceAll("\\s+", " ");
  }

  /** The sentences that are not in the document word for word, and what of it no sentence here takes up. */
  private static void beside() throws Exception {
    if (!Files.exists(DOCUMENT)) return;
    String left = plain(Files.readString(DOCUMENT));
    int otherwise = 0;
    for (String q : quotes) {
      int at = left.indexOf(plain(q));
      if (at < 0) {
        otherwise++;
        System.out.println("not in the document: " + q);
      } else {
        left = left.substring(0, at) + "~" + left.substring(at + plain(q).length());
      }
    }
    if (System.getProperty("left") != null) System.out.println(left);
    System.out.println(quotes.size() + " sentences, " + otherwise + " not in the document");
  }

  public static void main(String[] args) throws Exception {
    lastCalls();
    sideBySide();
    statements();
    moreStatements();
    faults();
    fields();
    kinds();
    shares();
    worths();
    proofs();
    saying();
    dung();
    sorts();
    nothingInMind();
    owns();
    hail();
    debts();
    onceMore();
    onceMoreAtTheEnd();
    image();
    refused();
    firstPromises();
    fieldPromises();
    worthPromises();
    yearPromises();
    debtPromises();
    lastPromises();
    beside();
    end();
  }
}
