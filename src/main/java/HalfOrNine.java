/**
 * A field that is let to a man who works it as it pays him: ../shared/DOC.md says what each call answers.
 * No call throws: every index, divisor and reference is tested before it is used.
 */
public final class HalfOrNine {
  private static final int NOBODY = -1;
  private static final int OTHER_WHAT = -2;
  private static final int WRONG_STATE = -3;
  private static final int BELOW = -4;
  private static final int NO_ROOM = -6;
  private static final int NONE = -9;

  private static final int MAN = 0;
  private static final int OWNER = 1;

  private static final int MOST_HARVEST = 999;
  private static final int MOST_FINE = 99;
  private static final int MOST_LIFE = 99;
  private static final int MOST_CREDIT = 999;
  private static final int MOST_DEBT_YEARS = 30;
  private static final int ROW_ROOM = 16;
  private static final int FIRST_SUM = 100;
  private static final int PROOFS = 74;

  private final Estate estate = new Estate();
  private final Estate pictured = new Estate();
  private final Estate draft = new Estate();
  private final Text text = new Text();
  private final Season season = new Season(estate);
  private final Says says = new Says();
  private final Dungs dungs = new Dungs();
  private final Term trial = new Term();
  private final int[] rowHarvests = new int[ROW_ROOM];
  private final int[] refusals = new int[6];
  private int rowLength;
  private boolean imaged;

  public HalfOrNine() {
  }

  public int feed(int n, long bytes) {
    int no = inRange(n, 1, 8);
    if (no == 0 && !text.hasRoom(n)) {
      no = NO_ROOM;
    }
    if (no != 0) {
      return refuse(no);
    }
    text.append(n, bytes);
    return text.length;
  }

  public int field() {
    draft.copyFrom(estate);
    int answer = text.readField(draft);
    if (answer >= 0) {
      estate.copyFrom(draft);
    }
    text.empty();
    return answer;
  }

  public int term() {
    if (estate.terms >= Estate.TERM_ROOM) {
      return refuse(NO_ROOM);
    }
    int fault = text.readTerm(trial);
    text.empty();
    if (fault >= 0) {
      return -20 - fault;
    }
    return estate.addTerm(trial);
  }

  public int termOf(int term, int what) {
    Term t = estate.termAt(term);
    if (t == null) {
      return refuse(NOBODY);
    }
    switch (what) {
      case 0: return t.kind;
      case 1: return t.a;
      case 2: return t.b;
      case 3: return t.n;
      default: return refuse(OTHER_WHAT);
    }
  }

  public int set(int what, int v) {
    if (!Estate.isSetting(what)) {
      return refuse(OTHER_WHAT);
    }
    int no = inRange(v, 0, Estate.mostOf(what));
    if (no != 0) {
      return refuse(no);
    }
    int was = estate.setting(what);
    estate.putSetting(what, v);
    return was;
  }

  public int weather(int weather, int what) {
    season.lay(0, 0, 0);
    if (!season.hasWeather(weather)) {
      return refuse(NOBODY);
    }
    switch (what) {
      case 0: return season.chanceOf(weather);
      case 1: return season.timesOf(weather);
      default: return refuse(OTHER_WHAT);
    }
  }

  public int harvest(int pains, int weather) {
    season.lay(0, 0, 0);
    if (!estate.hasPains(pains) || !season.hasWeather(weather)) {
      return refuse(NOBODY);
    }
    return season.harvestOf(pains, weather);
  }

  public int whose(int term, int harvest, int year, int who) {
    Term t = estate.termAt(term);
    if (t == null || !isWho(who)) {
      return refuseAsTold(NOBODY);
    }
    int no = first(inRange(harvest, 0, MOST_HARVEST), inRange(year, 0, Term.LAST_YEAR));
    if (no != 0) {
      return refuseAsTold(no);
    }
    return estate.bushelsOf(t, harvest, year, who);
  }

  public int mind(int who, int n) {
    if (!isWho(who)) {
      return refuseAsTold(NOBODY);
    }
    int no = inRange(n, -999, 999);
    if (no != 0) {
      return refuseAsTold(no);
    }
    return estate.mindOf(who, n);
  }

  public long worth(int term, int pains, int who) {
    Term t = estate.termAt(term);
    if (t == null || !estate.hasPains(pains) || !isWho(who)) {
      return refuseAsToldLong(NOBODY);
    }
    season.lay(0, 0, 0);
    return season.worthOf(t, pains, who);
  }

  public int pains(int term) {
    Term t = estate.termAt(term);
    if (t == null) {
      return refuse(NOBODY);
    }
    season.lay(0, 0, 0);
    season.findBest(t);
    return season.bestPains;
  }

  public int takes(int term) {
    Term t = estate.termAt(term);
    if (t == null) {
      return refuse(NOBODY);
    }
    season.lay(0, 0, 0);
    return isTaken(t) ? 1 : 0;
  }

  public int mean(int term, int who, int part) {
    Term t = estate.termAt(term);
    if (t == null || !isWho(who)) {
      return refuseAsTold(NOBODY);
    }
    if (part != 0 && part != 1) {
      return refuseAsTold(OTHER_WHAT);
    }
    season.lay(0, 0, 0);
    season.findBest(t);
    int above = season.hundredBushels(t, season.bestPains, who);
    int common = commonWithHundred(above);
    return Rows.cut(part == 0 ? above : 100, common);
  }

  public int proof() {
    season.lay(0, 0, 0);
    return findProof();
  }

  public long gap() {
    season.lay(0, 0, 0);
    int proof = findProof();
    if (proof == NONE) {
      return NONE;
    }
    layProof(proof);
    long byProof = ownerWorth(trial);
    boolean any = false;
    long most = 0;
    for (int pains = 0; pains <= season.most; pains++) {
      int wage = leastWage(pains);
      if (wage != NONE) {
        trial.become(Term.WAGE, wage, 0, 0);
        long worth = season.worthOf(trial, pains, OWNER);
        most = any ? Math.max(most, worth) : worth;
        any = true;
      }
    }
    return any ? Math.max(0L, most - byProof) : NONE;
  }

  public long half() {
    season.lay(0, 0, 0);
    int proof = findProof();
    if (proof == NONE) {
      return NONE;
    }
    layProof(proof);
    long byProof = ownerWorth(trial);
    trial.become(Term.PART, 1, 2, 0);
    return isTaken(trial) ? byProof - ownerWorth(trial) : NONE;
  }

  public int less(int term, int pains, int looks, int fine) {
    Term t = estate.termAt(term);
    if (t == null || !estate.hasPains(pains)) {
      return refuse(NOBODY);
    }
    int no = first(inRange(looks, 0, 100), inRange(fine, 0, MOST_FINE));
    if (no != 0) {
      return refuse(no);
    }
    season.lay(0, 0, 0);
    says.lay(season, t, pains, fine);
    return says.bestLess(looks);
  }

  public int looks(int term, int pains, int fine) {
    Term t = estate.termAt(term);
    if (t == null || !estate.hasPains(pains)) {
      return refuse(NOBODY);
    }
    int no = inRange(fine, 0, MOST_FINE);
    if (no != 0) {
      return refuse(no);
    }
    season.lay(0, 0, 0);
    says.lay(season, t, pains, fine);
    for (int looks = 0; looks <= 100; looks++) {
      if (says.bestLess(looks) == 0) {
        return looks;
      }
    }
    return NONE;
  }

  public long years(int term, int dung, int n, int what) {
    Term t = estate.termAt(term);
    if (t == null) {
      return refuseAsToldLong(NOBODY);
    }
    if (what != 0 && what != 1) {
      return refuseAsToldLong(OTHER_WHAT);
    }
    int no = first(inRange(dung, 0, Dungs.MOST_DUNG), inRange(n, 1, Dungs.MOST_YEARS));
    if (no != 0) {
      return refuseAsToldLong(no);
    }
    dungs.lay(season, t, n);
    dungs.sumUp(0);
    return what == 0 ? dungs.yearsWithDung(dung) : dungs.sumOf(0, dung);
  }

  public int leaving(int term, int n) {
    Term t = estate.termAt(term);
    if (t == null) {
      return refuse(NOBODY);
    }
    int no = inRange(n, 1, Dungs.MOST_YEARS);
    if (no != 0) {
      return refuse(no);
    }
    dungs.lay(season, t, n);
    for (int pay = 0; pay <= 99; pay++) {
      dungs.sumUp(pay);
      if (((dungs.yearsWithDung(0) >> (n - 1)) & 1) == 1) {
        return pay;
      }
    }
    return NONE;
  }

  public int offer(int one, int other, int good) {
    Term t = estate.termAt(one);
    Term u = estate.termAt(other);
    if (t == null || u == null || good < 0 || good > 9) {
      return refuse(NOBODY);
    }
    return chosenOf(t, u, good);
  }

  public int parts(int one, int other, int good) {
    Term t = estate.termAt(one);
    Term u = estate.termAt(other);
    if (t == null || u == null || good < 1 || good > 9) {
      return refuse(NOBODY);
    }
    return chosenOf(t, u, 0) != chosenOf(t, u, good) ? 1 : 0;
  }

  public int own(int term, int b) {
    Term t = estate.termAt(term);
    if (t == null) {
      return refuse(NOBODY);
    }
    int no = inRange(b, 0, 99);
    if (no != 0) {
      return refuse(no);
    }
    season.lay(0, 0, 0);
    return season.bestWithOwn(t, b);
  }

  public long bears(int term, int chance) {
    Term t = estate.termAt(term);
    if (t == null) {
      return refuseAsToldLong(NOBODY);
    }
    int no = inRange(chance, 0, 50);
    if (no != 0) {
      return refuseAsToldLong(no);
    }
    season.lay(0, 0, 0);
    long without = ownerWorth(t);
    season.lay(0, 0, chance);
    return without - ownerWorth(t);
  }

  public int ruin(int term, int pains, int z, int life, int credit, int n) {
    Term t = estate.termAt(term);
    if (t == null || !estate.hasPains(pains)) {
      return refuse(NOBODY);
    }
    int no = first(refusalOfDebts(life, n), inRange(credit, 0, MOST_CREDIT));
    if (no != 0) {
      return refuse(no);
    }
    season.lay(0, 0, 0);
    return ruinYear(t, pains, z, life, credit, n);
  }

  public int owes(int term, int pains, int z, int life, int n) {
    Term t = estate.termAt(term);
    if (t == null || !estate.hasPains(pains)) {
      return refuseAsTold(NOBODY);
    }
    int no = refusalOfDebts(life, n);
    if (no != 0) {
      return refuseAsTold(no);
    }
    season.lay(0, 0, 0);
    int has = 0;
    int seed = z;
    for (int year = 0; year < n; year++) {
      seed = draw(seed);
      has += season.drawnBushels(t, pains, seed, year) - life;
    }
    return has;
  }

  public int ruins(int term, int pains, int z, int life, int credit, int m, int n) {
    Term t = estate.termAt(term);
    if (t == null || !estate.hasPains(pains)) {
      return refuse(NOBODY);
    }
    int no = first(refusalOfDebts(life, m), first(inRange(credit, 0, MOST_CREDIT), inRange(n, 1, 50)));
    if (no != 0) {
      return refuse(no);
    }
    season.lay(0, 0, 0);
    int ruined = 0;
    for (int i = 0; i < n; i++) {
      if (ruinYear(t, pains, z + i, life, credit, m) != NONE) {
        ruined++;
      }
    }
    return ruined;
  }

  public int row(int harvest) {
    int no = inRange(harvest, 0, MOST_HARVEST);
    if (no == 0 && rowLength >= ROW_ROOM) {
      no = NO_ROOM;
    }
    if (no != 0) {
      return refuse(no);
    }
    Rows.put(rowHarvests, rowLength, harvest);
    rowLength++;
    return rowLength;
  }

  public int judge(int pains, int z) {
    if (!estate.hasPains(pains)) {
      return refuse(NOBODY);
    }
    season.lay(0, 0, 0);
    int answer = NONE;
    int seed = z;
    for (int year = 0; year < rowLength && answer == NONE; year++) {
      seed = draw(seed);
      if (season.harvestOf(pains, season.weatherBy(seed)) != Rows.at(rowHarvests, year)) {
        answer = year;
      }
    }
    rowLength = 0;
    return answer;
  }

  public int image() {
    pictured.copyFrom(estate);
    imaged = true;
    return estate.terms;
  }

  public int restore() {
    if (!imaged) {
      return refuse(WRONG_STATE);
    }
    estate.copyFrom(pictured);
    return estate.terms;
  }

  public int count(int what) {
    switch (what) {
      case 0: return estate.terms;
      case 1: return estate.steps;
      case 2: return countWeathers();
      case 3: return Rows.sum(estate.costs, estate.steps);
      case 4: return Rows.sum(estate.gives, estate.steps);
      case 5: return rowLength;
      case 6: return text.length;
      default: return what >= 11 && what <= 16 ? Rows.at(refusals, what - 11) : NONE;
    }
  }

  private int countWeathers() {
    season.lay(0, 0, 0);
    return season.weathers;
  }

  private int refuse(int number) {
    int place = -number - 1;
    Rows.put(refusals, place, Rows.at(refusals, place) + 1);
    return number;
  }

  private int refuseAsTold(int number) {
    return 1000000000 - refuse(number);
  }

  private long refuseAsToldLong(int number) {
    return 4000000000000000000L - refuse(number);
  }

  private static boolean isWho(int who) {
    return who == MAN || who == OWNER;
  }

  /** The refusal of a number that must be least .. most; 0 if it is. */
  private static int inRange(int v, int least, int most) {
    if (v < least) {
      return BELOW;
    }
    return v > most ? NO_ROOM : 0;
  }

  /** Of two numbers' refusals the one to answer: a -4 of either goes ahead of a -6. */
  private static int first(int one, int other) {
    if (one == BELOW || other == BELOW) {
      return BELOW;
    }
    return Math.min(one, other);
  }

  private static int refusalOfDebts(int life, int years) {
    return first(inRange(life, 0, MOST_LIFE), inRange(years, 1, MOST_DEBT_YEARS));
  }

  private static int draw(int z) {
    return z * 1103515245 + 12345;
  }

  private static int commonWithHundred(int v) {
    for (int g = 100; g > 1; g--) {
      if (100 % g == 0 && v % g == 0) {
        return g;
      }
    }
    return 1;
  }

  private boolean isTaken(Term t) {
    season.findBest(t);
    return season.bestWorth >= estate.otherWorth();
  }

  private long ownerWorth(Term t) {
    season.findBest(t);
    return season.worthOf(t, season.bestPains, OWNER);
  }

  private void layProof(int number) {
    if (number < FIRST_SUM) {
      trial.become(Term.PART, number, 12, 0);
    } else {
      trial.become(Term.SUM, number - FIRST_SUM, 0, 0);
    }
  }

  private int findProof() {
    int best = NONE;
    long most = 0;
    for (int i = 0; i < PROOFS; i++) {
      int number = i <= 12 ? i : FIRST_SUM + i - 13;
      layProof(number);
      if (isTaken(trial)) {
        long worth = season.worthOf(trial, season.bestPains, OWNER);
        if (best == NONE || worth > most) {
          best = number;
          most = worth;
        }
      }
    }
    return best;
  }

  /** A WAGE is the same in every WEATHER and CHANCES are 100 together, so that its WORTH needs no sum. */
  private int leastWage(int pains) {
    for (int wage = 0; wage <= 99; wage++) {
      int mind = estate.mindOf(MAN, wage - estate.seedOf(MAN));
      if (100L * mind - season.costWorth(pains) >= estate.otherWorth()) {
        return wage;
      }
    }
    return NONE;
  }

  private int chosenOf(Term one, Term other, int good) {
    season.lay(0, good, 0);
    season.findBest(one);
    long byOne = season.bestWorth;
    season.findBest(other);
    long byOther = season.bestWorth;
    if (Math.max(byOne, byOther) < estate.otherWorth()) {
      return NONE;
    }
    return byOther > byOne ? 1 : 0;
  }

  private int ruinYear(Term t, int pains, int z, int life, int credit, int n) {
    int has = 0;
    int seed = z;
    for (int year = 0; year < n; year++) {
      seed = draw(seed);
      has += season.drawnBushels(t, pains, seed, year) - life;
      if (has < -credit) {
        return year;
      }
    }
    return NONE;
  }

  /** Rows of numbers whose every index is looked at, and the division that is looked at. */
  static final class Rows {
    static int at(int[] numbers, int i) {
      return numbers != null && i >= 0 && i < numbers.length ? numbers[i] : 0;
    }

    static long at(long[] numbers, int i) {
      return numbers != null && i >= 0 && i < numbers.length ? numbers[i] : 0L;
    }

    static void put(int[] numbers, int i, int v) {
      if (numbers != null && i >= 0 && i < numbers.length) {
        numbers[i] = v;
      }
    }

    static void put(long[] numbers, int i, long v) {
      if (numbers != null && i >= 0 && i < numbers.length) {
        numbers[i] = v;
      }
    }

    static void copy(int[] from, int[] to) {
      if (from == null || to == null) {
        return;
      }
      for (int i = 0; i < from.length && i < to.length; i++) {
        to[i] = from[i];
      }
    }

    static int sum(int[] numbers, int n) {
      int sum = 0;
      for (int i = 0; i < n; i++) {
        sum += at(numbers, i);
      }
      return sum;
    }

    static int cut(int above, int below) {
      return below > 0 ? above / below : 0;
    }
  }

  /** A TERM: what a, b and n are, its kind tells. */
  static final class Term {
    static final int PART = 0;
    static final int SUM = 1;
    static final int WAGE = 2;
    static final int MIXED = 3;
    static final int YEARS = 4;
    static final int TOLD = 5;
    static final int LAST_YEAR = 9;

    int kind;
    int a;
    int b;
    int n;

    void become(int newKind, int newA, int newB, int newN) {
      kind = newKind;
      a = newA;
      b = newB;
      n = newN;
    }

    void copyFrom(Term other) {
      if (other != null) {
        become(other.kind, other.a, other.b, other.n);
      }
    }

    int shareOf(int h, int year) {
      switch (kind) {
        case PART: return Rows.cut(h * a, b);
        case SUM: return h - a;
        case WAGE: return a;
        case MIXED: return Rows.cut(h * a, b) - n;
        case YEARS: return Rows.cut(h * Math.min(a + n * year, b), b);
        default: return h >= 2 * a ? h - a - n : h - a;
      }
    }
  }

  /** All that THE IMAGE holds: the FIELD with both MINDS, and the TERMS. */
  static final class Estate {
    static final int STEP_ROOM = 8;
    static final int WEATHER_ROOM = 6;
    static final int TERM_ROOM = 8;
    static final int GROWS = 0;
    static final int OTHER = 1;
    static final int SEED = 2;
    static final int BY = 3;
    static final int MAN_MIND = 4;
    static final int OWNER_MIND = 6;
    private static final int[] MOST = {99, 999, 99, 1, 99, 10, 99, 10};

    /** In the order in which the call set tells them; behind each EDGE stands its LESS. */
    final int[] settings = {10, 0, 0, 0, 99, 10, 99, 10};
    final int[] costs = new int[STEP_ROOM];
    final int[] gives = new int[STEP_ROOM];
    final int[] chances = new int[WEATHER_ROOM];
    final int[] times = new int[WEATHER_ROOM];
    final Term[] lets = new Term[TERM_ROOM];
    int steps;
    int weathers;
    int terms;

    Estate() {
      for (int i = 0; i < lets.length; i++) {
        lets[i] = new Term();
      }
    }

    void copyFrom(Estate other) {
      if (other == null) {
        return;
      }
      Rows.copy(other.settings, settings);
      Rows.copy(other.costs, costs);
      Rows.copy(other.gives, gives);
      Rows.copy(other.chances, chances);
      Rows.copy(other.times, times);
      for (int i = 0; i < lets.length && i < other.lets.length; i++) {
        if (lets[i] != null) {
          lets[i].copyFrom(other.lets[i]);
        }
      }
      steps = other.steps;
      weathers = other.weathers;
      terms = other.terms;
    }

    static boolean isSetting(int what) {
      return what >= 0 && what < MOST.length;
    }

    static int mostOf(int what) {
      return what >= 0 && what < MOST.length ? MOST[what] : 0;
    }

    int setting(int what) {
      return what >= 0 && what < settings.length ? settings[what] : 0;
    }

    void putSetting(int what, int v) {
      if (what >= 0 && what < settings.length) {
        settings[what] = v;
      }
    }

    Term termAt(int i) {
      return i >= 0 && i < terms && i < lets.length ? lets[i] : null;
    }

    int addTerm(Term t) {
      int number = terms;
      if (number >= 0 && number < lets.length && lets[number] != null) {
        lets[number].copyFrom(t);
        terms++;
      }
      return number;
    }

    boolean hasPains(int pains) {
      return pains >= 0 && pains <= steps;
    }

    boolean addStep(int cost, int bushels) {
      if (steps >= STEP_ROOM || cost > 99 || bushels > 99) {
        return false;
      }
      Rows.put(costs, steps, cost);
      Rows.put(gives, steps, bushels);
      steps++;
      return true;
    }

    boolean addWeather(int chance, int hundredths) {
      if (weathers >= WEATHER_ROOM || chance < 1 || hundredths > 300) {
        return false;
      }
      if (Rows.sum(chances, weathers) + chance > 100) {
        return false;
      }
      Rows.put(chances, weathers, chance);
      Rows.put(times, weathers, hundredths);
      weathers++;
      return true;
    }

    boolean tellSetting(int what, int v) {
      if (v > mostOf(what)) {
        return false;
      }
      putSetting(what, v);
      return true;
    }

    boolean tellPair(int what, int v, int next) {
      return tellSetting(what, v) && tellSetting(what + 1, next);
    }

    long otherWorth() {
      return 1000L * setting(OTHER);
    }

    int seedOf(int who) {
      return setting(BY) == who ? setting(SEED) : 0;
    }

    int mindOf(int who, int n) {
      int place = who == MAN ? MAN_MIND : OWNER_MIND;
      int edge = setting(place);
      if (n < 0) {
        return 20 * n;
      }
      return n <= edge ? 10 * n : 10 * edge + setting(place + 1) * (n - edge);
    }

    int bushelsOf(Term t, int h, int year, int who) {
      if (t == null) {
        return 0;
      }
      int share = t.shareOf(h, year);
      return (who == MAN ? share : h - share) - seedOf(who);
    }
  }

  /** The FIELD as a call looks at it: with DUNG, for a SORT of men, with HAIL in mind; laid anew by each call. */
  static final class Season {
    /** The told WEATHERS, HAIL and what CHANCES lack. */
    static final int WEATHER_ROOM = Estate.WEATHER_ROOM + 2;
    static final int PAINS_ROOM = Estate.STEP_ROOM + 1;

    final Estate estate;
    final int[] costs = new int[PAINS_ROOM];
    final int[] chances = new int[WEATHER_ROOM];
    final int[] times = new int[WEATHER_ROOM];
    final int[] harvests = new int[PAINS_ROOM * WEATHER_ROOM];
    int most;
    int weathers;
    int year;
    int bestPains;
    long bestWorth;

    Season(Estate estate) {
      this.estate = estate;
    }

    void lay(int dung, int good, int hail) {
      year = 0;
      most = Math.min(estate.steps, Estate.STEP_ROOM);
      layWeathers(hail);
      int bushels = estate.setting(Estate.GROWS) + 5 * dung;
      int cost = 0;
      layHarvests(0, bushels);
      for (int i = 0; i < most; i++) {
        bushels += Rows.at(estate.gives, i) * (10 + good) / 10;
        cost += Rows.at(estate.costs, i);
        Rows.put(costs, i + 1, cost);
        layHarvests(i + 1, bushels);
      }
    }

    void layWeathers(int hail) {
      weathers = 0;
      int left = 100;
      if (hail > 0) {
        left -= layWeather(hail, 0);
      }
      for (int i = 0; i < estate.weathers; i++) {
        left -= layWeather(Rows.at(estate.chances, i) * (100 - hail) / 100, Rows.at(estate.times, i));
      }
      if (left > 0) {
        layWeather(left, 100);
      }
    }

    int layWeather(int chance, int hundredths) {
      Rows.put(chances, weathers, chance);
      Rows.put(times, weathers, hundredths);
      weathers++;
      return chance;
    }

    void layHarvests(int pains, int bushels) {
      for (int w = 0; w < weathers; w++) {
        Rows.put(harvests, pains * WEATHER_ROOM + w, bushels * timesOf(w) / 100);
      }
    }

    boolean hasWeather(int weather) {
      return weather >= 0 && weather < weathers;
    }

    int chanceOf(int weather) {
      return Rows.at(chances, weather);
    }

    int timesOf(int weather) {
      return Rows.at(times, weather);
    }

    int harvestOf(int pains, int weather) {
      return Rows.at(harvests, pains * WEATHER_ROOM + weather);
    }

    long costWorth(int pains) {
      return 1000L * Rows.at(costs, pains);
    }

    long worthOf(Term t, int pains, int who) {
      long sum = who == MAN ? -costWorth(pains) : 0;
      for (int w = 0; w < weathers; w++) {
        int bushels = estate.bushelsOf(t, harvestOf(pains, w), year, who);
        sum += (long) chanceOf(w) * estate.mindOf(who, bushels);
      }
      return sum;
    }

    /** BEST PAINS of a TERM and his WORTH with them. */
    void findBest(Term t) {
      bestPains = 0;
      bestWorth = worthOf(t, 0, MAN);
      for (int pains = 1; pains <= most; pains++) {
        long worth = worthOf(t, pains, MAN);
        if (worth > bestWorth) {
          bestPains = pains;
          bestWorth = worth;
        }
      }
    }

    int hundredBushels(Term t, int pains, int who) {
      int sum = 0;
      for (int w = 0; w < weathers; w++) {
        sum += chanceOf(w) * estate.bushelsOf(t, harvestOf(pains, w), year, who);
      }
      return sum;
    }

    long worthWithOwn(Term t, int pains, int ownSteps, int b) {
      long sum = -costWorth(pains + ownSteps);
      for (int w = 0; w < weathers; w++) {
        int bushels = estate.bushelsOf(t, harvestOf(pains, w), year, MAN) + b * ownSteps;
        sum += (long) chanceOf(w) * estate.mindOf(MAN, bushels);
      }
      return sum;
    }

    int bestWithOwn(Term t, int b) {
      int best = 0;
      long mostWorth = worthWithOwn(t, 0, 0, b);
      for (int pains = 0; pains <= most; pains++) {
        for (int ownSteps = 0; pains + ownSteps <= most; ownSteps++) {
          long worth = worthWithOwn(t, pains, ownSteps, b);
          if (worth > mostWorth) {
            best = 10 * pains + ownSteps;
            mostWorth = worth;
          }
        }
      }
      return best;
    }

    int weatherBy(int drawn) {
      int hundredth = ((drawn & 0x7fffffff) / 65536) % 100;
      int together = 0;
      for (int w = 0; w < weathers; w++) {
        together += chanceOf(w);
        if (hundredth < together) {
          return w;
        }
      }
      return 0;
    }

    int drawnBushels(Term t, int pains, int drawn, int debtYear) {
      int h = harvestOf(pains, weatherBy(drawn));
      return estate.bushelsOf(t, h, Math.min(debtYear, Term.LAST_YEAR), MAN);
    }
  }

  /** His WORTH by how much less he says: parted in found and not found, so that LOOKS only weigh the two. */
  static final class Says {
    static final int MOST_LESS = 20;

    final long[] found = new long[MOST_LESS + 1];
    final long[] hidden = new long[MOST_LESS + 1];

    /** COSTS are the same for each c and left out. */
    void lay(Season season, Term t, int pains, int fine) {
      for (int c = 0; c <= MOST_LESS; c++) {
        Rows.put(found, c, 0L);
        Rows.put(hidden, c, 0L);
        if (season != null) {
          for (int w = 0; w < season.weathers; w++) {
            addWeather(season, t, pains, fine, c, w);
          }
        }
      }
    }

    void addWeather(Season season, Term t, int pains, int fine, int c, int w) {
      Estate estate = season.estate;
      int h = season.harvestOf(pains, w);
      int held = Math.min(c, h);
      int unseen = estate.mindOf(MAN, estate.bushelsOf(t, h - held, 0, MAN) + held);
      int seen = held > 0 ? estate.mindOf(MAN, -fine - estate.seedOf(MAN)) : unseen;
      long chance = season.chanceOf(w);
      Rows.put(hidden, c, Rows.at(hidden, c) + chance * unseen);
      Rows.put(found, c, Rows.at(found, c) + chance * seen);
    }

    int bestLess(int looks) {
      int best = 0;
      long most = worthOf(0, looks);
      for (int c = 1; c <= MOST_LESS; c++) {
        long worth = worthOf(c, looks);
        if (worth > most) {
          best = c;
          most = worth;
        }
      }
      return best;
    }

    long worthOf(int c, int looks) {
      return looks * Rows.at(found, c) + (100 - looks) * Rows.at(hidden, c);
    }
  }

  /** YEARS with DUNG: the greatest sum from each YEAR and DUNG on, reckoned from the last YEAR back. */
  static final class Dungs {
    static final int MOST_DUNG = 3;
    static final int MOST_YEARS = 10;
    static final int WIDTH = MOST_DUNG + 1;
    static final int DUNG_WORTH = 4000;

    final long[] worths = new long[MOST_YEARS * WIDTH];
    final long[] sums = new long[(MOST_YEARS + 1) * WIDTH];
    int years;

    void lay(Season season, Term t, int n) {
      years = n;
      if (season == null) {
        return;
      }
      for (int dung = 0; dung <= MOST_DUNG; dung++) {
        season.lay(dung, 0, 0);
        for (int year = 0; year < n; year++) {
          season.year = year;
          season.findBest(t);
          Rows.put(worths, year * WIDTH + dung, season.bestWorth);
        }
      }
    }

    void sumUp(int pay) {
      for (int dung = 0; dung <= MOST_DUNG; dung++) {
        Rows.put(sums, years * WIDTH + dung, 1000L * pay * dung);
      }
      for (int year = years - 1; year >= 0; year--) {
        for (int dung = 0; dung <= MOST_DUNG; dung++) {
          long then = Math.max(sumWithout(year, dung), sumWith(year, dung));
          Rows.put(sums, year * WIDTH + dung, Rows.at(worths, year * WIDTH + dung) + then);
        }
      }
    }

    long sumOf(int year, int dung) {
      return Rows.at(sums, year * WIDTH + dung);
    }

    long sumWithout(int year, int dung) {
      return sumOf(year + 1, Math.max(dung - 1, 0));
    }

    long sumWith(int year, int dung) {
      return sumOf(year + 1, Math.min(dung + 1, MOST_DUNG)) - DUNG_WORTH;
    }

    long yearsWithDung(int dungAtFirst) {
      long set = 0;
      int dung = dungAtFirst;
      for (int year = 0; year < years; year++) {
        if (sumWith(year, dung) > sumWithout(year, dung)) {
          set |= 1L << year;
          dung = Math.min(dung + 1, MOST_DUNG);
        } else {
          dung = Math.max(dung - 1, 0);
        }
      }
      return set;
    }
  }

  /** The TEXT, and how a FIELD and a TERM are read from it. */
  static final class Text {
    static final int TEXT_ROOM = 64;
    static final int SOUND = -1;

    final int[] bytes = new int[TEXT_ROOM];
    int length;
    int place;

    boolean hasRoom(int n) {
      return length + n <= TEXT_ROOM;
    }

    void append(int n, long more) {
      for (int i = 0; i < n; i++) {
        Rows.put(bytes, length, (int) ((more >>> (8 * i)) & 255));
        length++;
      }
    }

    void empty() {
      length = 0;
    }

    /** The byte at the place that is read; -1 behind the end. */
    int here() {
      return place < length ? Rows.at(bytes, place) : -1;
    }

    boolean skip(int sign) {
      if (here() != sign) {
        return false;
      }
      place++;
      return true;
    }

    /** A number of 1 to 3 digits without a 0 ahead of another; -1 if none stands here. */
    int number() {
      int v = -1;
      for (int i = 0; i < 3 && v != 0 && here() >= '0' && here() <= '9'; i++) {
        v = 10 * Math.max(v, 0) + here() - '0';
        place++;
      }
      return v;
    }

    /** A number of a range, else -1 with the place left at its first digit, or where a digit lacks. */
    int numberOf(int least, int most) {
      int at = place;
      int v = number();
      if (v < least || v > most) {
        place = at;
        return -1;
      }
      return v;
    }

    /** The STATEMENTS come to the FIELD: how many, or the FAULT. */
    int readField(Estate field) {
      int fault = fieldFault();
      if (fault != SOUND) {
        return -1000 - fault;
      }
      int statements = 0;
      place = 0;
      for (int i = 0; i < TEXT_ROOM && place < length; i++) {
        int at = place;
        if (!readStatement(field)) {
          return -2000 - at;
        }
        statements++;
      }
      return statements;
    }

    /** The place of the first byte with which no FIELD can go on, whatever the numbers are worth. */
    int fieldFault() {
      place = 0;
      if (length == 0) {
        return 0;
      }
      for (int i = 0; i < TEXT_ROOM && place < length; i++) {
        if (!passStatement()) {
          return place;
        }
      }
      return SOUND;
    }

    boolean passStatement() {
      int numbers = numbersBehind(here());
      if (numbers == 0) {
        return false;
      }
      place++;
      if (numbers == 2 && (number() < 0 || !skip(','))) {
        return false;
      }
      return number() >= 0 && skip(';');
    }

    static int numbersBehind(int letter) {
      switch (letter) {
        case 'g':
        case 'o':
          return 1;
        case 'p':
        case 'w':
        case 'm':
        case 'e':
        case 's':
          return 2;
        default:
          return 0;
      }
    }

    boolean readStatement(Estate field) {
      int letter = here();
      place++;
      int one = number();
      int other = 0;
      if (skip(',')) {
        other = number();
      }
      place++;
      return field != null && tell(field, letter, one, other);
    }

    static boolean tell(Estate field, int letter, int one, int other) {
      switch (letter) {
        case 'g': return field.tellSetting(Estate.GROWS, one);
        case 'o': return field.tellSetting(Estate.OTHER, one);
        case 'p': return field.addStep(one, other);
        case 'w': return field.addWeather(one, other);
        case 'm': return field.tellPair(Estate.MAN_MIND, one, other);
        case 'e': return field.tellPair(Estate.OWNER_MIND, one, other);
        default: return field.tellPair(Estate.SEED, one, other);
      }
    }

    /** The TEXT becomes a TERM: the place of its FAULT, SOUND without one. */
    int readTerm(Term t) {
      place = 0;
      int kind = kindOf(here());
      if (kind < 0 || t == null) {
        return 0;
      }
      place++;
      boolean byParts = kind == Term.PART || kind == Term.MIXED || kind == Term.YEARS;
      int a = numberOf(byParts ? 1 : 0, 99);
      if (a < 0) {
        return place;
      }
      int b = 0;
      if (byParts) {
        b = skip('/') ? numberOf(a, 99) : -1;
      }
      if (b < 0) {
        return place;
      }
      int n = 0;
      if (kind >= Term.MIXED) {
        n = skip('+') ? numberOf(0, 99) : -1;
      }
      if (n < 0 || place < length) {
        return place;
      }
      t.become(kind, a, b, n);
      return SOUND;
    }

    static int kindOf(int letter) {
      switch (letter) {
        case 'p': return Term.PART;
        case 'f': return Term.SUM;
        case 'w': return Term.WAGE;
        case 'x': return Term.MIXED;
        case 'y': return Term.YEARS;
        case 't': return Term.TOLD;
        default: return -1;
      }
    }
  }
}
