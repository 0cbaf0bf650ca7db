/** What the tests share: a call whose answer is not the one that is due is told with the sentence that it breaks. */
abstract class Checks {
  static final int TOLD = 1000000000;
  static final long TOLD_LONG = 4000000000000000000L;
  static final int LEAST = Integer.MIN_VALUE;
  static final int MOST = Integer.MAX_VALUE;

  private static int checks = 0;
  private static int wrong = 0;
  private static String sentence = "";

  /** The promise or the sentence of the document that the checks behind it look at. */
  static void says(String told) {
    sentence = told;
  }

  static void due(String call, long got, long want) {
    checks++;
    if (got != want) {
      wrong++;
      System.out.println(sentence + ": " + call + " answered " + got + ", due is " + want);
    }
  }

  /** To be called last: fails the run if a check was wrong. */
  static void end() {
    System.out.println(checks + " checks, " + wrong + " wrong");
    if (wrong != 0) System.exit(1);
  }

  static long bytes(String s, int from, int n) {
    long bytes = 0;
    for (int i = 0; i < n; i++) bytes |= (long) s.charAt(from + i) << (8 * i);
    return bytes;
  }

  static void feed(HalfOrNine x, String s) {
    for (int at = 0; at < s.length(); at += 8) {
      int n = Math.min(8, s.length() - at);
      x.feed(n, bytes(s, at, n));
    }
  }

  static int field(HalfOrNine x, String s) {
    feed(x, s);
    return x.field();
  }

  static int term(HalfOrNine x, String s) {
    feed(x, s);
    return x.term();
  }

  /** A new object with a FIELD (nothing, if empty) and TERMS. */
  static HalfOrNine with(String field, String... terms) {
    HalfOrNine x = new HalfOrNine();
    if (!field.isEmpty()) field(x, field);
    for (String t : terms) term(x, t);
    return x;
  }

  /** How many REFUSALS there were of each number. */
  static void refusals(HalfOrNine x, int one, int two, int three, int four, int six) {
    int[] want = {one, two, three, four, 0, six};
    for (int i = 0; i < 6; i++) due("count(" + (11 + i) + ")", x.count(11 + i), want[i]);
  }

  /** What it was of all that set tells; all stays. */
  static int[] settings(HalfOrNine x) {
    int[] all = new int[8];
    for (int what = 0; what < 8; what++) {
      all[what] = x.set(what, 0);
      x.set(what, all[what]);
    }
    return all;
  }

  static void settingsAre(HalfOrNine x, int... want) {
    int[] all = settings(x);
    for (int what = 0; what < 8; what++) due("what set(" + what + ", ..) was", all[what], want[what]);
  }

  /** What can be seen of an object (no bytes of the TEXT, no ROW, no IMAGE) by few calls: it has 512. */
  static String seen(HalfOrNine x) {
    StringBuilder s = new StringBuilder();
    int[] counts = new int[7];
    for (int what = 0; what <= 6; what++) {
      counts[what] = x.count(what);
      s.append(counts[what]).append(' ');
    }
    for (int v : settings(x)) s.append(v).append(' ');
    for (int t = 0; t < counts[0]; t++) {
      for (int what = 0; what < 4; what++) s.append(x.termOf(t, what)).append(' ');
    }
    for (int w = 0; w < counts[2]; w++) s.append(x.weather(w, 0)).append(' ').append(x.weather(w, 1)).append(' ');
    for (int pains = 0; pains <= counts[1]; pains++) {
      s.append(x.harvest(pains, counts[2] - 1)).append(' ');
      if (counts[0] > 0) s.append(x.worth(0, pains, 0)).append(' ');
    }
    return s.toString();
  }

  static void same(String call, String got, String want) {
    checks++;
    if (!got.equals(want)) {
      wrong++;
      System.out.println(sentence + ": " + call + " left " + got + ", due is " + want);
    }
  }

  /** So many of a text one behind the other. */
  static String many(int n, String s) {
    return s.repeat(n);
  }
}
