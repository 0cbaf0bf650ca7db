import java.util.ArrayList;
import java.util.Arrays;
import java.util.List;

/** Every call with every number at, just beyond and far beyond its edges: which REFUSAL, and what stays. */
public final class RefusalTests extends Checks {
  /** What is refused of a number that is out of its range. */
  private enum Kind { NOBODY, WHAT, NUMBER, FREE }

  /** How a REFUSAL is told. */
  private enum Told { PLAIN, INT, LONG }

  private record Range(Kind kind, int least, int most) { }

  private interface Call {
    long of(HalfOrNine x, int[] n);
  }

  private record Face(String name, Told told, Call call, Range... ranges) { }

  private static Range nobody(int most) {
    return new Range(Kind.NOBODY, 0, most);
  }

  private static Range what(int most) {
    return new Range(Kind.WHAT, 0, most);
  }

  private static Range number(int least, int most) {
    return new Range(Kind.NUMBER, least, most);
  }

  private static Range seed() {
    return new Range(Kind.FREE, -5, 5);
  }

  /** The calls of the document, as they are refused where there are so many TERMS, STEPS, WEATHERS. */
  private static List<Face> faces(int terms, int steps, int weathers) {
    Range term = nobody(terms - 1);
    Range pains = nobody(steps);
    Range who = nobody(1);
    Range life = number(0, 99);
    Range credit = number(0, 999);
    Range debtYears = number(1, 30);
    List<Face> all = new ArrayList<>();
    all.add(new Face("termOf", Told.PLAIN, (x, n) -> x.termOf(n[0], n[1]), term, what(3)));
    all.add(new Face("weather", Told.PLAIN, (x, n) -> x.weather(n[0], n[1]), nobody(weathers - 1), what(1)));
    all.add(new Face("harvest", Told.PLAIN, (x, n) -> x.harvest(n[0], n[1]), pains, nobody(weathers - 1)));
    all.add(new Face("whose", Told.INT, (x, n) -> x.whose(n[0], n[1], n[2], n[3]), term, number(0, 999),
        number(0, 9), who));
    all.add(new Face("mind", Told.INT, (x, n) -> x.mind(n[0], n[1]), who, number(-999, 999)));
    all.add(new Face("worth", Told.LONG, (x, n) -> x.worth(n[0], n[1], n[2]), term, pains, who));
    all.add(new Face("pains", Told.PLAIN, (x, n) -> x.pains(n[0]), term));
    all.add(new Face("takes", Told.PLAIN, (x, n) -> x.takes(n[0]), term));
    all.add(new Face("mean", Told.INT, (x, n) -> x.mean(n[0], n[1], n[2]), term, who, what(1)));
    all.add(new Face("proof", Told.PLAIN, (x, n) -> x.proof()));
    all.add(new Face("gap", Told.PLAIN, (x, n) -> x.gap()));
    all.add(new Face("half", Told.PLAIN, (x, n) -> x.half()));
    all.add(new Face("less", Told.PLAIN, (x, n) -> x.less(n[0], n[1], n[2], n[3]), term, pains, number(0, 100),
        number(0, 99)));
    all.add(new Face("looks", Told.PLAIN, (x, n) -> x.looks(n[0], n[1], n[2]), term, pains, number(0, 99)));
    all.add(new Face("years", Told.LONG, (x, n) -> x.years(n[0], n[1], n[2], n[3]), term, number(0, 3),
        number(1, 10), what(1)));
    all.add(new Face("leaving", Told.PLAIN, (x, n) -> x.leaving(n[0], n[1]), term, number(1, 10)));
    all.add(new Face("offer", Told.PLAIN, (x, n) -> x.offer(n[0], n[1], n[2]), term, term, nobody(9)));
    all.add(new Face("parts", Told.PLAIN, (x, n) -> x.parts(n[0], n[1], n[2]), term, term,
        new Range(Kind.NOBODY, 1, 9)));
    all.add(new Face("own", Told.PLAIN, (x, n) -> x.own(n[0], n[1]), term, number(0, 99)));
    all.add(new Face("bears", Told.LONG, (x, n) -> x.bears(n[0], n[1]), term, number(0, 50)));
    all.add(new Face("ruin", Told.PLAIN, (x, n) -> x.ruin(n[0], n[1], n[2], n[3], n[4], n[5]), term, pains, seed(),
        life, credit, debtYears));
    all.add(new Face("owes", Told.INT, (x, n) -> x.owes(n[0], n[1], n[2], n[3], n[4]), term, pains, seed(), life,
        debtYears));
    all.add(new Face("ruins", Told.PLAIN, (x, n) -> x.ruins(n[0], n[1], n[2], n[3], n[4], n[5], n[6]), term, pains,
        seed(), life, credit, debtYears, number(1, 50)));
    all.add(new Face("count", Told.PLAIN, (x, n) -> x.count(n[0]), new Range(Kind.FREE, 0, 16)));
    return all;
  }

  /** The calls by which something comes: these are refused as told, too, but what stays is looked at elsewhere. */
  private static List<Face> faceThatChanges(int steps) {
    List<Face> all = new ArrayList<>();
    int[] most = {99, 999, 99, 1, 99, 10, 99, 10};
    for (int w = 0; w < 8; w++) {
      int whatSet = w;
      all.add(new Face("set " + w, Told.PLAIN, (x, n) -> x.set(whatSet, n[0]), number(0, most[w])));
    }
    all.add(new Face("feed", Told.PLAIN, (x, n) -> x.feed(n[0], n[1]), number(1, 8), seed()));
    all.add(new Face("row", Told.PLAIN, (x, n) -> x.row(n[0]), number(0, 999)));
    all.add(new Face("judge", Told.PLAIN, (x, n) -> x.judge(n[0], n[1]), nobody(steps), seed()));
    return all;
  }

  /** At, just beyond and far beyond the edges; of a range that is empty (no TERMS) the same. */
  private static int[] edges(Range r) {
    return new int[] {LEAST, r.least() - 1, r.least(), r.most(), r.most() + 1, MOST};
  }

  /** The first that fits in the order of the REFUSALS, whichever number it is of; 0 none. */
  private static int refusalOf(Range[] ranges, int[] n) {
    boolean nobody = false;
    boolean other = false;
    boolean below = false;
    boolean above = false;
    for (int i = 0; i < ranges.length; i++) {
      boolean less = n[i] < ranges[i].least();
      boolean more = n[i] > ranges[i].most();
      nobody |= ranges[i].kind() == Kind.NOBODY && (less || more);
      other |= ranges[i].kind() == Kind.WHAT && (less || more);
      below |= ranges[i].kind() == Kind.NUMBER && less;
      above |= ranges[i].kind() == Kind.NUMBER && more;
    }
    return nobody ? -1 : other ? -2 : below ? -4 : above ? -6 : 0;
  }

  private static long told(Told told, int refusal) {
    return told == Told.PLAIN ? refusal : (told == Told.INT ? TOLD : TOLD_LONG) - refusal;
  }

  private static HalfOrNine object(int terms, String... fields) {
    HalfOrNine x = new HalfOrNine();
    for (String f : fields) field(x, f);
    String[] texts = {"y1/4+1", "f9", "w6", "x1/2+3", "p1/2", "t5+4", "p9/9", "f0"};
    for (int t = 0; t < terms; t++) term(x, texts[t]);
    return x;
  }

  /** Calls with all their edges beside one another; after so many calls a new object takes its place. */
  private static void sweep(List<Face> all, int terms, boolean stays, String... fields) {
    for (Face f : all) {
      says(f.name() + " with " + terms + " TERMS on " + String.join("", fields));
      HalfOrNine x = object(terms, fields);
      String before = seen(x);
      int[] counted = new int[7];
      int calls = 0;
      int kinds = f.ranges().length;
      int rounds = 1;
      for (int i = 0; i < kinds; i++) rounds *= 6;
      for (int round = 0; round < rounds; round++) {
        int[] n = new int[kinds];
        for (int i = 0, rest = round; i < kinds; i++, rest /= 6) n[i] = edges(f.ranges()[i])[rest % 6];
        if (kinds == 7 && n[2] != LEAST && n[2] != MOST) continue;
        int refusal = refusalOf(f.ranges(), n);
        long answer = f.call().of(x, n);
        if (refusal != 0) {
          due(f.name() + " " + Arrays.toString(n), answer, told(f.told(), refusal));
          counted[-refusal]++;
        }
        calls++;
        if (calls == 250) {
          standing(x, f, stays, before, counted);
          x = object(terms, fields);
          calls = 0;
          counted = new int[7];
        }
      }
      standing(x, f, stays, before, counted);
    }
  }

  private static void standing(HalfOrNine x, Face f, boolean stays, String before, int[] counted) {
    refusals(x, counted[1], counted[2], counted[3], counted[4], counted[6]);
    if (stays) same(f.name(), seen(x), before);
  }

  private static final String EIGHT_STEPS = "p1,5;p0,4;p2,0;p3,9;p1,1;p4,2;p5,3;p9,9;";
  private static final String SIX_WEATHERS = "w10,0;w20,50;w30,120;w9,300;w10,99;w20,30;";

  private static void sweepAll() {
    sweep(faces(0, 0, 1), 0, true);
    sweep(faces(1, 1, 1), 1, true, "p3,9;w100,90;s2,1;");
    sweep(faces(2, 0, 2), 2, true, "w60,20;s3,0;o4;");
    sweep(faces(8, 8, 7), 8, true, EIGHT_STEPS, SIX_WEATHERS);
    sweep(faces(8, 8, 6), 8, true, EIGHT_STEPS, "w11,0;w20,50;w30,120;w9,300;w10,99;w20,30;");
    sweep(faceThatChanges(0), 0, false);
    sweep(faceThatChanges(8), 8, false, EIGHT_STEPS, SIX_WEATHERS);
  }

  /** What the calls that only answer can not show: the bytes of the TEXT, the ROW's HARVESTS and THE IMAGE. */
  private static void nothingChanges() {
    says("a refused call: nothing changes but how many there were");
    HalfOrNine x = object(8, EIGHT_STEPS);
    x.image();
    String pictured = seen(x);
    field(x, "g7;s1,1;m5,5;");
    feed(x, "g5;g");
    for (int i = 0; i < 16; i++) x.row(7);
    String before = seen(x);
    for (Face f : faces(8, 8, 1)) {
      for (int i = 0; i < f.ranges().length; i++) {
        if (f.ranges()[i].kind() == Kind.FREE) continue;
        int[] n = new int[f.ranges().length];
        for (int k = 0; k < n.length; k++) n[k] = f.ranges()[k].least();
        n[i]--;
        due(f.name() + " below", f.call().of(x, n), told(f.told(), refusalOf(f.ranges(), n)));
      }
    }
    due("term without room", x.term(), -6);
    due("row without room", x.row(1), -6);
    due("row below", x.row(-1), -4);
    due("feed below", x.feed(0, ';'), -4);
    due("feed above", x.feed(9, ';'), -6);
    due("set of no what", x.set(8, 1), -2);
    for (int what = 0; what < 8; what++) due("set below", x.set(what, -1), -4);
    due("judge of no PAINS", x.judge(9, 1), -1);
    same("all of them", seen(x), before);
    due("the TEXT lacks its end still", x.field(), -1004);
    due("the ROW is as it was told", x.judge(0, 1), -9);
    due("THE IMAGE", x.restore(), 8);
    same("THE IMAGE", seen(x), pictured);
    says("restore where there is no IMAGE: nothing changes but how many there were");
    x = object(3, "p1,1;");
    before = seen(x);
    due("restore", x.restore(), -3);
    same("restore", seen(x), before);
    refusals(x, 0, 0, 1, 0, 0);
  }

  /** What a call looks at anew (DUNG, GOOD, HAIL, a YEAR, trial TERMS) plays no part in the next. */
  private static void answersStandAlone() {
    says("an answer is the same whatever was asked ahead of it");
    String[] fields = {EIGHT_STEPS, "g17;w10,0;w20,50;w30,120;w9,300;w10,99;", "s2,0;o3;m20,4;e30,6;"};
    List<Face> all = faces(8, 8, 6);
    for (Face ahead : all) {
      HalfOrNine x = object(8, fields);
      int[] n = asked(ahead, true);
      ahead.call().of(x, n);
      for (Face f : all) {
        if (f.name().equals("count")) continue;
        for (boolean great : new boolean[] {true, false}) {
          long alone = f.call().of(object(8, fields), asked(f, great));
          due(f.name() + " behind " + ahead.name(), f.call().of(x, asked(f, great)), alone);
          ahead.call().of(x, n);
        }
      }
      refusals(x, 0, 0, 0, 0, 0);
    }
  }

  /** The greatest numbers that are taken, or the least but for PAINS. */
  private static int[] asked(Face f, boolean great) {
    int[] n = new int[f.ranges().length];
    for (int i = 0; i < n.length; i++) {
      Range r = f.ranges()[i];
      n[i] = great || (r.kind() == Kind.NOBODY && i == 1) ? r.most() : r.least();
    }
    return n;
  }

  public static void main(String[] args) {
    sweepAll();
    nothingChanges();
    answersStandAlone();
    end();
  }
}
