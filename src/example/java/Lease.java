/** A field with two STEPS and three WEATHERS, let by three TERMS: every call of the class, and what it answers. */
public final class Lease {
  /** A text comes to the TEXT by its bytes, up to 8 a call, the lowest first. */
  private static void feed(HalfOrNine x, String text) {
    for (int at = 0; at < text.length(); at += 8) {
      int n = Math.min(8, text.length() - at);
      long bytes = 0;
      for (int i = 0; i < n; i++) bytes |= (long) text.charAt(at + i) << (8 * i);
      x.feed(n, bytes);
    }
  }

  private static void tell(String call, long answer) {
    System.out.println(call + " = " + answer);
  }

  private static void field(HalfOrNine x) {
    feed(x, "g10;p3,10;p4,6;w25,0;w25,150;m20,8;s2,1;o3;");
    tell("field()", x.field());
    feed(x, "p1/2");
    tell("term()", x.term());
    feed(x, "f9");
    tell("term()", x.term());
    feed(x, "t6+4");
    tell("term()", x.term());
    tell("termOf(2, 0)", x.termOf(2, 0));
    tell("set(0, 12)", x.set(0, 12));
    tell("weather(2, 0)", x.weather(2, 0));
    tell("harvest(1, 1)", x.harvest(1, 1));
    tell("whose(0, 33, 0, 1)", x.whose(0, 33, 0, 1));
    tell("mind(0, 25)", x.mind(0, 25));
  }

  private static void terms(HalfOrNine x) {
    tell("worth(0, 1, 0)", x.worth(0, 1, 0));
    tell("pains(0)", x.pains(0));
    tell("takes(0)", x.takes(0));
    tell("mean(0, 0, 0)", x.mean(0, 0, 0));
    tell("mean(0, 0, 1)", x.mean(0, 0, 1));
    tell("proof()", x.proof());
    tell("gap()", x.gap());
    tell("half()", x.half());
    tell("less(0, 1, 20, 5)", x.less(0, 1, 20, 5));
    tell("looks(0, 1, 5)", x.looks(0, 1, 5));
  }

  private static void years(HalfOrNine x) {
    tell("years(1, 0, 4, 0)", x.years(1, 0, 4, 0));
    tell("years(1, 0, 4, 1)", x.years(1, 0, 4, 1));
    tell("leaving(0, 2)", x.leaving(0, 2));
    tell("offer(0, 1, 3)", x.offer(0, 1, 3));
    tell("parts(0, 1, 9)", x.parts(0, 1, 9));
    tell("own(0, 4)", x.own(0, 4));
    tell("bears(0, 10)", x.bears(0, 10));
    tell("ruin(1, 1, 7, 6, 20, 30)", x.ruin(1, 1, 7, 6, 20, 30));
    tell("owes(1, 1, 7, 6, 30)", x.owes(1, 1, 7, 6, 30));
    tell("ruins(1, 1, 7, 6, 20, 30, 50)", x.ruins(1, 1, 7, 6, 20, 30, 50));
    tell("row(22)", x.row(22));
    tell("judge(1, 7)", x.judge(1, 7));
  }

  private static void refusals(HalfOrNine x) {
    tell("image()", x.image());
    tell("restore()", x.restore());
    tell("pains(3)", x.pains(3));
    tell("mind(2, 0)", x.mind(2, 0));
    tell("worth(3, 0, 0)", x.worth(3, 0, 0));
    tell("count(11)", x.count(11));
    feed(x, "g10;o1000;");
    tell("field()", x.field());
    feed(x, "g10;w101,0;");
    tell("field()", x.field());
    feed(x, "p3/2");
    tell("term()", x.term());
  }

  public static void main(String[] args) {
    HalfOrNine x = new HalfOrNine();
    field(x);
    terms(x);
    years(x);
    refusals(x);
  }
}
