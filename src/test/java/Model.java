import java.util.ArrayList;
import java.util.List;
import java.util.regex.Matcher;
import java.util.regex.Pattern;

/** The document once more, as plainly and as unlike the class as can be: ModelTests sets both side by side. */
final class Model {
  private static final String NUMBER = "(?:0|[1-9][0-9]{0,2})";
  private static final Pattern FIELD =
      Pattern.compile("(?:[go]" + NUMBER + ";|[pwmes]" + NUMBER + "," + NUMBER + ";)+");
  private static final Pattern TERM = Pattern.compile("p" + NUMBER + "/" + NUMBER + "|[fw]" + NUMBER
      + "|[xy]" + NUMBER + "/" + NUMBER + "\\+" + NUMBER + "|t" + NUMBER + "\\+" + NUMBER);
  private static final Pattern DIGITS = Pattern.compile("0|[1-9][0-9]{0,2}");

  private static final class Land {
    int grows = 10;
    int other = 0;
    int seed = 0;
    int by = 0;
    int[] edge = {99, 99};
    int[] less = {10, 10};
    List<int[]> steps = new ArrayList<>();
    List<int[]> weathers = new ArrayList<>();
    List<int[]> terms = new ArrayList<>();

    Land copy() {
      Land c = new Land();
      c.grows = grows;
      c.other = other;
      c.seed = seed;
      c.by = by;
      c.edge = edge.clone();
      c.less = less.clone();
      c.steps = new ArrayList<>(steps);
      c.weathers = new ArrayList<>(weathers);
      c.terms = new ArrayList<>(terms);
      return c;
    }
  }

  private Land land = new Land();
  private Land image;
  private String text = "";
  private final List<Integer> row = new ArrayList<>();
  private final int[] refusals = new int[7];

  private int no(int n) {
    refusals[-n]++;
    return n;
  }

  private int noTold(int n) {
    return 1000000000 - no(n);
  }

  private long noLong(int n) {
    return 4000000000000000000L - no(n);
  }

  /** Triples of number, least, greatest: -4 of any, then -6 of any, then 0. */
  private static int bounds(int... triples) {
    for (int i = 0; i < triples.length; i += 3) {
      if (triples[i] < triples[i + 1]) return -4;
    }
    for (int i = 0; i < triples.length; i += 3) {
      if (triples[i] > triples[i + 2]) return -6;
    }
    return 0;
  }

  private boolean isTerm(int t) {
    return t >= 0 && t < land.terms.size();
  }

  private boolean isPains(int p) {
    return p >= 0 && p <= land.steps.size();
  }

  private static boolean isWho(int w) {
    return w == 0 || w == 1;
  }

  int feed(int n, long bytes) {
    int b = bounds(n, 1, 8);
    if (b != 0) return no(b);
    if (text.length() + n > 64) return no(-6);
    for (int i = 0; i < n; i++) text += (char) (bytes >>> 8 * i & 255);
    return text.length();
  }

  /** The first place at which no text of the pattern can go on; -1 if the text is one. */
  private static int brokenAt(Pattern pattern, String s) {
    for (int i = 1; i <= s.length(); i++) {
      Matcher m = pattern.matcher(s.substring(0, i));
      if (!m.matches() && !m.hitEnd()) return i - 1;
    }
    return pattern.matcher(s).matches() ? -1 : s.length();
  }

  int field() {
    String s = text;
    text = "";
    int broken = brokenAt(FIELD, s);
    if (broken >= 0) return -1000 - broken;
    Land next = land.copy();
    int place = 0;
    int statements = 0;
    for (String statement : s.split(";")) {
      String[] parts = statement.substring(1).split(",");
      int one = Integer.parseInt(parts[0]);
      int other = parts.length > 1 ? Integer.parseInt(parts[1]) : 0;
      if (!tell(next, statement.charAt(0), one, other)) return -2000 - place;
      place += statement.length() + 1;
      statements++;
    }
    land = next;
    return statements;
  }

  private static boolean tell(Land l, char letter, int one, int other) {
    if (letter == 'g') {
      l.grows = one;
      return one <= 99;
    }
    if (letter == 'o') {
      l.other = one;
      return true;
    }
    if (letter == 'm' || letter == 'e') {
      l.edge[letter == 'm' ? 0 : 1] = one;
      l.less[letter == 'm' ? 0 : 1] = other;
      return one <= 99 && other <= 10;
    }
    if (letter == 's') {
      l.seed = one;
      l.by = other;
      return one <= 99 && other <= 1;
    }
    if (letter == 'p') {
      l.steps.add(new int[] {one, other});
      return one <= 99 && other <= 99 && l.steps.size() <= 8;
    }
    l.weathers.add(new int[] {one, other});
    int all = 0;
    for (int[] w : l.weathers) all += w[0];
    return one >= 1 && one <= 100 && other <= 300 && l.weathers.size() <= 6 && all <= 100;
  }

  int term() {
    if (land.terms.size() == 8) return no(-6);
    String s = text;
    text = "";
    int broken = brokenAt(TERM, s);
    int read = broken < 0 ? s.length() : broken;
    List<Integer> numbers = new ArrayList<>();
    Matcher m = DIGITS.matcher(s.substring(0, read));
    int kind = s.isEmpty() ? -1 : "pfwxyt".indexOf(s.charAt(0));
    boolean parted = kind == 0 || kind == 3 || kind == 4;
    while (m.find()) {
      int v = Integer.parseInt(m.group());
      int least = !parted || numbers.size() == 2 ? 0 : numbers.isEmpty() ? 1 : numbers.get(0);
      if (v < least || v > 99) return -20 - m.start();
      numbers.add(v);
    }
    if (broken >= 0) return -20 - broken;
    int last = numbers.get(numbers.size() - 1);
    land.terms.add(new int[] {kind, numbers.get(0), parted ? numbers.get(1) : 0, kind >= 3 ? last : 0});
    return land.terms.size() - 1;
  }

  int termOf(int term, int what) {
    if (!isTerm(term)) return no(-1);
    return what < 0 || what > 3 ? no(-2) : land.terms.get(term)[what];
  }

  int set(int what, int v) {
    if (what < 0 || what > 7) return no(-2);
    int[] most = {99, 999, 99, 1, 99, 10, 99, 10};
    int b = bounds(v, 0, most[what]);
    if (b != 0) return no(b);
    int was;
    switch (what) {
      case 0: was = land.grows; land.grows = v; break;
      case 1: was = land.other; land.other = v; break;
      case 2: was = land.seed; land.seed = v; break;
      case 3: was = land.by; land.by = v; break;
      case 4: was = land.edge[0]; land.edge[0] = v; break;
      case 5: was = land.less[0]; land.less[0] = v; break;
      case 6: was = land.edge[1]; land.edge[1] = v; break;
      default: was = land.less[1]; land.less[1] = v; break;
    }
    return was;
  }

  private List<int[]> weathers(int hail) {
    List<int[]> all = new ArrayList<>();
    int left = 100 - hail;
    for (int[] w : land.weathers) {
      int chance = w[0] * (100 - hail) / 100;
      all.add(new int[] {chance, w[1]});
      left -= chance;
    }
    if (left > 0) all.add(new int[] {left, 100});
    if (hail > 0) all.add(new int[] {hail, 0});
    return all;
  }

  int weather(int weather, int what) {
    List<int[]> all = weathers(0);
    if (weather < 0 || weather >= all.size()) return no(-1);
    return what < 0 || what > 1 ? no(-2) : all.get(weather)[what];
  }

  private int grown(int pains, int dung, int good) {
    int sum = land.grows + 5 * dung;
    for (int i = 0; i < pains; i++) sum += land.steps.get(i)[1] * (10 + good) / 10;
    return sum;
  }

  private long cost(int steps) {
    long sum = 0;
    for (int i = 0; i < steps; i++) sum += land.steps.get(i)[0];
    return sum;
  }

  int harvest(int pains, int weather) {
    List<int[]> all = weathers(0);
    if (!isPains(pains) || weather < 0 || weather >= all.size()) return no(-1);
    return grown(pains, 0, 0) * all.get(weather)[1] / 100;
  }

  private int has(int[] t, int h, int year, int who) {
    int share;
    switch (t[0]) {
      case 0: share = h * t[1] / t[2]; break;
      case 1: share = h - t[1]; break;
      case 2: share = t[1]; break;
      case 3: share = h * t[1] / t[2] - t[3]; break;
      case 4: share = h * Math.min(t[2], t[1] + t[3] * year) / t[2]; break;
      default: share = h - t[1] - (h >= 2 * t[1] ? t[3] : 0); break;
    }
    return (who == 0 ? share : h - share) - (land.by == who ? land.seed : 0);
  }

  int whose(int term, int harvest, int year, int who) {
    if (!isTerm(term) || !isWho(who)) return noTold(-1);
    int b = bounds(harvest, 0, 999, year, 0, 9);
    return b != 0 ? noTold(b) : has(land.terms.get(term), harvest, year, who);
  }

  private long minded(int who, int n) {
    long sum = 0;
    for (int i = 1; i <= n; i++) sum += i <= land.edge[who] ? 10 : land.less[who];
    return n < 0 ? 20L * n : sum;
  }

  int mind(int who, int n) {
    if (!isWho(who)) return noTold(-1);
    int b = bounds(n, -999, 999);
    return b != 0 ? noTold(b) : (int) minded(who, n);
  }

  /** WORTH where the FIELD is looked at with a YEAR, DUNG, GOOD, HAIL. */
  private long weigh(int[] t, int pains, int who, int year, int dung, int good, int hail) {
    long sum = 0;
    for (int[] w : weathers(hail)) {
      sum += w[0] * minded(who, has(t, grown(pains, dung, good) * w[1] / 100, year, who));
    }
    return who == 0 ? sum - 1000 * cost(pains) : sum;
  }

  private int best(int[] t, int year, int dung, int good, int hail) {
    int best = land.steps.size();
    for (int p = best; p >= 0; p--) {
      if (weigh(t, p, 0, year, dung, good, hail) >= weigh(t, best, 0, year, dung, good, hail)) best = p;
    }
    return best;
  }

  private long bestWorth(int[] t, int year, int dung, int good) {
    return weigh(t, best(t, year, dung, good, 0), 0, year, dung, good, 0);
  }

  private long ownerWorth(int[] t, int hail) {
    return weigh(t, best(t, 0, 0, 0, hail), 1, 0, 0, 0, hail);
  }

  long worth(int term, int pains, int who) {
    if (!isTerm(term) || !isPains(pains) || !isWho(who)) return noLong(-1);
    return weigh(land.terms.get(term), pains, who, 0, 0, 0, 0);
  }

  int pains(int term) {
    return isTerm(term) ? best(land.terms.get(term), 0, 0, 0, 0) : no(-1);
  }

  private boolean taken(int[] t) {
    return bestWorth(t, 0, 0, 0) >= 1000L * land.other;
  }

  int takes(int term) {
    return isTerm(term) ? (taken(land.terms.get(term)) ? 1 : 0) : no(-1);
  }

  int mean(int term, int who, int part) {
    if (!isTerm(term) || !isWho(who)) return noTold(-1);
    if (part != 0 && part != 1) return noTold(-2);
    int[] t = land.terms.get(term);
    int pains = best(t, 0, 0, 0, 0);
    int above = 0;
    for (int[] w : weathers(0)) above += w[0] * has(t, grown(pains, 0, 0) * w[1] / 100, 0, who);
    int below = 100;
    for (int by : new int[] {2, 2, 5, 5}) {
      if (above % by == 0 && below % by == 0) {
        above /= by;
        below /= by;
      }
    }
    return part == 0 ? above : below;
  }

  private static int[] proofTerm(int number) {
    return number < 100 ? new int[] {0, number, 12, 0} : new int[] {1, number - 100, 0, 0};
  }

  int proof() {
    int best = -9;
    for (int number = 160; number >= 0; number--) {
      if ((number > 12 && number < 100) || !taken(proofTerm(number))) continue;
      if (best < 0 || ownerWorth(proofTerm(number), 0) >= ownerWorth(proofTerm(best), 0)) best = number;
    }
    return best;
  }

  long gap() {
    int proof = proof();
    if (proof < 0) return -9;
    Long most = null;
    for (int p = 0; p <= land.steps.size(); p++) {
      for (int wage = 0; wage <= 99; wage++) {
        int[] t = {2, wage, 0, 0};
        if (weigh(t, p, 0, 0, 0, 0, 0) >= 1000L * land.other) {
          long worth = weigh(t, p, 1, 0, 0, 0, 0);
          if (most == null || worth > most) most = worth;
          break;
        }
      }
    }
    return most == null ? -9 : Math.max(0, most - ownerWorth(proofTerm(proof), 0));
  }

  long half() {
    int[] half = {0, 1, 2, 0};
    int proof = proof();
    if (proof < 0 || !taken(half)) return -9;
    return ownerWorth(proofTerm(proof), 0) - ownerWorth(half, 0);
  }

  private int bestLess(int[] t, int pains, int looks, int fine) {
    int best = 0;
    long most = Long.MIN_VALUE;
    int seed = land.by == 0 ? land.seed : 0;
    for (int c = 0; c <= 20; c++) {
      long sum = 0;
      for (int[] w : weathers(0)) {
        int h = grown(pains, 0, 0) * w[1] / 100;
        int says = Math.max(0, h - c);
        if (says == h) {
          sum += 100 * w[0] * minded(0, has(t, h, 0, 0));
        } else {
          sum += (100 - looks) * w[0] * minded(0, has(t, says, 0, 0) + h - says);
          sum += looks * w[0] * minded(0, -fine - seed);
        }
      }
      if (sum > most) {
        most = sum;
        best = c;
      }
    }
    return best;
  }

  int less(int term, int pains, int looks, int fine) {
    if (!isTerm(term) || !isPains(pains)) return no(-1);
    int b = bounds(looks, 0, 100, fine, 0, 99);
    return b != 0 ? no(b) : bestLess(land.terms.get(term), pains, looks, fine);
  }

  int looks(int term, int pains, int fine) {
    if (!isTerm(term) || !isPains(pains)) return no(-1);
    int b = bounds(fine, 0, 99);
    if (b != 0) return no(b);
    for (int looks = 0; looks <= 100; looks++) {
      if (bestLess(land.terms.get(term), pains, looks, fine) == 0) return looks;
    }
    return -9;
  }

  /** Every set of YEARS: its sum without pay, and the DUNG at its end. */
  private long[][] allSets(int[] t, int dung, int n) {
    long[][] worths = new long[n][4];
    for (int y = 0; y < n; y++) {
      for (int d = 0; d < 4; d++) worths[y][d] = bestWorth(t, y, d, 0);
    }
    long[][] sets = new long[1 << n][2];
    for (int set = 0; set < sets.length; set++) {
      int d = dung;
      for (int y = 0; y < n; y++) {
        boolean dungs = (set >> y & 1) == 1;
        sets[set][0] += worths[y][d] - (dungs ? 4000 : 0);
        d = dungs ? Math.min(3, d + 1) : Math.max(0, d - 1);
      }
      sets[set][1] = d;
    }
    return sets;
  }

  /** Of like sums the set that is without the first YEAR in which two differ. */
  private static int bestSet(long[][] sets, int pay) {
    int best = 0;
    for (int set = 1; set < sets.length; set++) {
      long more = sets[set][0] + 1000 * pay * sets[set][1] - sets[best][0] - 1000 * pay * sets[best][1];
      if (more > 0 || (more == 0 && (set & Integer.lowestOneBit(set ^ best)) == 0)) best = set;
    }
    return best;
  }

  long years(int term, int dung, int n, int what) {
    if (!isTerm(term)) return noLong(-1);
    if (what != 0 && what != 1) return noLong(-2);
    int b = bounds(dung, 0, 3, n, 1, 10);
    if (b != 0) return noLong(b);
    long[][] sets = allSets(land.terms.get(term), dung, n);
    int best = bestSet(sets, 0);
    return what == 0 ? best : sets[best][0];
  }

  int leaving(int term, int n) {
    if (!isTerm(term)) return no(-1);
    int b = bounds(n, 1, 10);
    if (b != 0) return no(b);
    long[][] sets = allSets(land.terms.get(term), 0, n);
    for (int pay = 0; pay <= 99; pay++) {
      if ((bestSet(sets, pay) >> n - 1 & 1) == 1) return pay;
    }
    return -9;
  }

  private int choice(int one, int other, int good) {
    long a = bestWorth(land.terms.get(one), 0, 0, good);
    long b = bestWorth(land.terms.get(other), 0, 0, good);
    if (a < 1000L * land.other && b < 1000L * land.other) return -9;
    return a >= b ? 0 : 1;
  }

  int offer(int one, int other, int good) {
    if (!isTerm(one) || !isTerm(other) || good < 0 || good > 9) return no(-1);
    return choice(one, other, good);
  }

  int parts(int one, int other, int good) {
    if (!isTerm(one) || !isTerm(other) || good <= 0 || good > 9) return no(-1);
    return choice(one, other, 0) == choice(one, other, good) ? 0 : 1;
  }

  int own(int term, int b) {
    if (!isTerm(term)) return no(-1);
    int bound = bounds(b, 0, 99);
    if (bound != 0) return no(bound);
    int best = 0;
    long most = Long.MIN_VALUE;
    for (int pair = 0; pair <= 88; pair++) {
      int p = pair / 10;
      int o = pair % 10;
      if (p + o > land.steps.size()) continue;
      long sum = -1000 * cost(p + o);
      for (int[] w : weathers(0)) {
        int h = grown(p, 0, 0) * w[1] / 100;
        sum += w[0] * minded(0, has(land.terms.get(term), h, 0, 0) + o * b);
      }
      if (sum > most) {
        most = sum;
        best = pair;
      }
    }
    return best;
  }

  long bears(int term, int chance) {
    if (!isTerm(term)) return noLong(-1);
    int b = bounds(chance, 0, 50);
    if (b != 0) return noLong(b);
    int[] t = land.terms.get(term);
    return ownerWorth(t, 0) - ownerWorth(t, chance);
  }

  /** The places of the WEATHERS drawn in n YEARS. */
  private int[] drawn(int z, int n) {
    int[] places = new int[n];
    List<int[]> all = weathers(0);
    for (int y = 0; y < n; y++) {
      z = z * 1103515245 + 12345;
      int hundredth = (int) ((z & 0x7fffffffL) / 65536 % 100);
      List<Integer> urn = new ArrayList<>();
      for (int i = 0; i < all.size(); i++) {
        for (int k = 0; k < all.get(i)[0]; k++) urn.add(i);
      }
      places[y] = urn.get(hundredth);
    }
    return places;
  }

  /** What he has behind each YEAR. */
  private int[] debts(int term, int pains, int z, int life, int n) {
    int[] has = new int[n];
    int[] places = drawn(z, n);
    int sum = 0;
    for (int y = 0; y < n; y++) {
      int h = grown(pains, 0, 0) * weathers(0).get(places[y])[1] / 100;
      sum += has(land.terms.get(term), h, y > 9 ? 9 : y, 0) - life;
      has[y] = sum;
    }
    return has;
  }

  private int firstBelow(int[] has, int credit) {
    for (int y = 0; y < has.length; y++) {
      if (has[y] < -credit) return y;
    }
    return -9;
  }

  int ruin(int term, int pains, int z, int life, int credit, int n) {
    if (!isTerm(term) || !isPains(pains)) return no(-1);
    int b = bounds(life, 0, 99, credit, 0, 999, n, 1, 30);
    return b != 0 ? no(b) : firstBelow(debts(term, pains, z, life, n), credit);
  }

  int owes(int term, int pains, int z, int life, int n) {
    if (!isTerm(term) || !isPains(pains)) return noTold(-1);
    int b = bounds(life, 0, 99, n, 1, 30);
    return b != 0 ? noTold(b) : debts(term, pains, z, life, n)[n - 1];
  }

  int ruins(int term, int pains, int z, int life, int credit, int m, int n) {
    if (!isTerm(term) || !isPains(pains)) return no(-1);
    int b = bounds(life, 0, 99, credit, 0, 999, m, 1, 30, n, 1, 50);
    if (b != 0) return no(b);
    int sum = 0;
    for (int i = 0; i < n; i++) {
      if (firstBelow(debts(term, pains, z + i, life, m), credit) >= 0) sum++;
    }
    return sum;
  }

  int row(int harvest) {
    int b = bounds(harvest, 0, 999);
    if (b != 0) return no(b);
    if (row.size() == 16) return no(-6);
    row.add(harvest);
    return row.size();
  }

  int judge(int pains, int z) {
    if (!isPains(pains)) return no(-1);
    int[] places = drawn(z, row.size());
    int answer = -9;
    for (int y = places.length - 1; y >= 0; y--) {
      if (grown(pains, 0, 0) * weathers(0).get(places[y])[1] / 100 != row.get(y)) answer = y;
    }
    row.clear();
    return answer;
  }

  int image() {
    image = land.copy();
    return land.terms.size();
  }

  int restore() {
    if (image == null) return no(-3);
    land = image.copy();
    return land.terms.size();
  }

  int count(int what) {
    int costs = 0;
    int gives = 0;
    for (int[] s : land.steps) {
      costs += s[0];
      gives += s[1];
    }
    switch (what) {
      case 0: return land.terms.size();
      case 1: return land.steps.size();
      case 2: return weathers(0).size();
      case 3: return costs;
      case 4: return gives;
      case 5: return row.size();
      case 6: return text.length();
      default: return what >= 11 && what <= 16 ? refusals[what - 10] : -9;
    }
  }
}
