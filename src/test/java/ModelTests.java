import java.util.Random;

/** Runs of calls by fixed seeds: the class and the Model must answer alike, call by call. */
public final class ModelTests {
  private static final int RUNS = 1200;
  private static final int CALLS = 160;
  private static final String SIGNS = "gpwomesftxy0123456789,;/+ -\u00ff";
  private static final int[] EDGES = {Integer.MIN_VALUE, -1000, -999, -1, 0, 1, 2, 3, 8, 9, 10, 20, 30, 31, 50, 51,
      99, 100, 101, 999, 1000, Integer.MAX_VALUE};

  private final Random random;
  private final HalfOrNine x = new HalfOrNine();
  private final Model m = new Model();
  private final StringBuilder told = new StringBuilder();

  private ModelTests(long seed) {
    random = new Random(seed);
  }

  public static void main(String[] args) {
    for (int run = 0; run < RUNS; run++) {
      ModelTests t = new ModelTests(run);
      for (int call = 0; call < CALLS; call++) {
        if (!t.call()) {
          System.out.println("run " + run + ", call " + call + ": unlike the Model, last rows of\n" + t.told);
          System.exit(1);
        }
      }
    }
    System.out.println(RUNS + " runs of " + CALLS + " calls are as the Model says");
  }

  private int upTo(int most) {
    return random.nextInt(most + 1);
  }

  /** Mostly a number of the range, now and then one at or beyond its edges. */
  private int near(int least, int most) {
    switch (random.nextInt(24)) {
      case 0: return least;
      case 1: return most;
      case 2: return random.nextInt(4) > 0 ? most : most + 1;
      case 3: return random.nextInt(4) > 0 ? least : least - 1;
      case 4: return EDGES[random.nextInt(EDGES.length)];
      default: return least + random.nextInt(most - least + 1);
    }
  }

  private String number(int most) {
    switch (random.nextInt(60)) {
      case 0: return "" + (most + 1);
      case 1: return "0" + upTo(9);
      case 2: return "" + upTo(2000);
      case 3: return "";
      case 4: return "" + most;
      case 5: return "0";
      default: return "" + upTo(most);
    }
  }

  private String statement() {
    switch (random.nextInt(9)) {
      case 0: return "g" + number(99) + ";";
      case 1: case 2: case 3: return "p" + number(random.nextInt(4) > 0 ? 12 : 99) + "," + number(99) + ";";
      case 4: case 5: return "w" + number(random.nextInt(4) > 0 ? 30 : 100) + "," + number(300) + ";";
      case 6: return "o" + number(random.nextInt(4) > 0 ? 60 : 999) + ";";
      case 7: return (random.nextBoolean() ? "m" : "e") + number(99) + "," + number(10) + ";";
      default: return "s" + number(random.nextInt(4) > 0 ? 15 : 99) + "," + number(1) + ";";
    }
  }

  private String termText() {
    int a = 1 + upTo(random.nextInt(4) > 0 ? 11 : 98);
    String parts = a + "/" + (random.nextInt(12) > 0 ? "" + (a + upTo(99 - a) % 13) : number(99));
    switch (random.nextInt(6)) {
      case 0: return "p" + parts;
      case 1: return "f" + number(99);
      case 2: return "w" + number(99);
      case 3: return "x" + parts + "+" + number(30);
      case 4: return "y" + parts + "+" + number(9);
      default: return "t" + number(60) + "+" + number(40);
    }
  }

  private String mangled(String s) {
    if (s.isEmpty() || random.nextInt(8) > 0) return s;
    int at = random.nextInt(s.length());
    String sign = random.nextBoolean() ? "" : "" + SIGNS.charAt(random.nextInt(SIGNS.length()));
    return s.substring(0, at) + sign + s.substring(at + random.nextInt(2));
  }

  private boolean feedText(String s) {
    boolean like = true;
    for (int at = 0; at < s.length() && like; ) {
      int n = Math.min(1 + upTo(7), s.length() - at);
      long bytes = n < 8 ? random.nextLong() << (8 * n) : 0;
      for (int i = 0; i < n; i++) bytes |= (long) s.charAt(at + i) << (8 * i);
      like = same("feed(" + n + ", " + bytes + ")", x.feed(n, bytes), m.feed(n, bytes));
      at += n;
    }
    return like;
  }

  private boolean same(String call, long got, long want) {
    told.append(call).append(": ").append(got).append(", Model ").append(want).append('\n');
    return got == want;
  }

  private boolean call() {
    switch (random.nextInt(40)) {
      case 0: case 1: case 2: case 3:
        StringBuilder s = new StringBuilder();
        for (int i = upTo(5); i >= 0; i--) s.append(statement());
        return feedText(mangled(s.toString())) && same("field()", x.field(), m.field());
      case 4: case 5: case 6: case 7:
        return feedText(mangled(termText())) && same("term()", x.term(), m.term());
      default:
        return random.nextBoolean() ? look() : reckon();
    }
  }

  private boolean look() {
    int a = near(0, 7);
    int b = near(0, 3);
    int c = near(0, 999);
    int who = near(0, 1);
    switch (random.nextInt(14)) {
      case 0: return same("termOf " + a + " " + b, x.termOf(a, b), m.termOf(a, b));
      case 1: case 2:
        int v = near(0, random.nextInt(3) > 0 ? 10 : 99);
        return same("set " + a + " " + v, x.set(a, v), m.set(a, v));
      case 3: return same("weather " + a + " " + who, x.weather(a, who), m.weather(a, who));
      case 4: return same("harvest " + a + " " + b, x.harvest(a, b), m.harvest(a, b));
      case 5:
        int year = near(0, 9);
        return same("whose " + a + " " + c + " " + year + " " + who, x.whose(a, c, year, who),
            m.whose(a, c, year, who));
      case 6:
        int n = near(-999, 999);
        return same("mind " + who + " " + n, x.mind(who, n), m.mind(who, n));
      case 7:
        boolean grown = random.nextInt(3) > 0;
        int h = grown ? x.harvest(b, who) : c;
        boolean like = !grown || same("harvest " + b + " " + who, h, m.harvest(b, who));
        return like && same("row " + h, x.row(h), m.row(h));
      case 8:
        int z = random.nextInt(3) > 0 ? upTo(3) : random.nextInt();
        return same("judge " + b + " " + z, x.judge(b, z), m.judge(b, z));
      case 9:
        return random.nextInt(3) > 0 || same("image", x.image(), m.image());
      case 10:
        return random.nextInt(3) > 0 || same("restore", x.restore(), m.restore());
      case 11:
        long bytes = random.nextLong();
        return random.nextInt(6) > 0 || same("feed " + c + " " + bytes, x.feed(c, bytes), m.feed(c, bytes));
      default:
        int what = near(0, 16);
        return same("count " + what, x.count(what), m.count(what));
    }
  }

  private boolean reckon() {
    int t = near(0, 7);
    int u = near(0, 7);
    int p = near(0, 5);
    int n = near(1, 10);
    int who = near(0, 1);
    int fine = near(0, 99);
    switch (random.nextInt(19)) {
      case 0: return same("worth " + t + " " + p + " " + who, x.worth(t, p, who), m.worth(t, p, who));
      case 1: return same("pains " + t, x.pains(t), m.pains(t));
      case 2: return same("takes " + t, x.takes(t), m.takes(t));
      case 3:
        int part = near(0, 1);
        return same("mean " + t + " " + who + " " + part, x.mean(t, who, part), m.mean(t, who, part));
      case 4: return same("proof", x.proof(), m.proof());
      case 5: return same("gap", x.gap(), m.gap());
      case 6: return same("half", x.half(), m.half());
      case 7:
        int looks = near(0, 100);
        return same("less " + t + " " + p + " " + looks + " " + fine, x.less(t, p, looks, fine),
            m.less(t, p, looks, fine));
      case 8: return same("looks " + t + " " + p + " " + fine, x.looks(t, p, fine), m.looks(t, p, fine));
      case 9: case 10:
        int dung = near(0, 3);
        return same("years " + t + " " + dung + " " + n + " " + who, x.years(t, dung, n, who),
            m.years(t, dung, n, who));
      case 11: return same("leaving " + t + " " + n, x.leaving(t, n), m.leaving(t, n));
      case 12:
        int good = near(0, 9);
        return same("offer " + t + " " + u + " " + good, x.offer(t, u, good), m.offer(t, u, good));
      case 13:
        int g = near(1, 9);
        return same("parts " + t + " " + u + " " + g, x.parts(t, u, g), m.parts(t, u, g));
      case 14:
        int b = near(0, random.nextBoolean() ? 12 : 99);
        return same("own " + t + " " + b, x.own(t, b), m.own(t, b));
      case 15:
        int chance = near(0, 50);
        return same("bears " + t + " " + chance, x.bears(t, chance), m.bears(t, chance));
      default: return debts(t, p);
    }
  }

  private boolean debts(int t, int p) {
    int z = random.nextInt();
    int life = near(0, random.nextBoolean() ? 20 : 99);
    int credit = near(0, random.nextBoolean() ? 60 : 999);
    int n = near(1, 30);
    int seeds = near(1, 50);
    String told = t + " " + p + " " + z + " " + life + " " + credit + " " + n + " " + seeds;
    switch (random.nextInt(3)) {
      case 0: return same("ruin " + told, x.ruin(t, p, z, life, credit, n), m.ruin(t, p, z, life, credit, n));
      case 1: return same("owes " + told, x.owes(t, p, z, life, n), m.owes(t, p, z, life, n));
      default:
        return same("ruins " + told, x.ruins(t, p, z, life, credit, n, seeds),
            m.ruins(t, p, z, life, credit, n, seeds));
    }
  }
}
