import java.util.Random;

/** Runs of calls by chance, each answer held against that of the Oracle; all promises. */
public final class OracleTest {
  private static final Check CHECK = new Check("OracleTest");
  private static final int OBJECTS = 1500;

  private final HeadNets x = new HeadNets();
  private final Oracle o = new Oracle();
  private final Random chance;
  private final TextMaker maker;
  private String text = "";

  private OracleTest(long seed) {
    chance = new Random(seed);
    maker = new TextMaker(seed);
  }

  public static void main(String[] args) {
    int objects = args.length > 0 ? Integer.parseInt(args[0]) : OBJECTS;
    long first = args.length > 1 ? Long.parseLong(args[1]) : 0;
    for (int i = 0; i < objects && CHECK.wrongSoFar() < 20; i++) {
      new OracleTest(first + i).callAll();
    }
    CHECK.close();
  }

  private void callAll() {
    for (int i = chance.nextInt(3); i < 3; i++) {
      readText();
      lookAround();
      for (int calls = chance.nextInt(40); calls > 0; calls--) {
        callOne();
      }
      lookAround();
    }
  }

  private void same(String call, int got, int want) {
    CHECK.due(call + " behind " + text.replace('\n', ' '), got, want);
  }

  private void readText() {
    text = maker.book();
    for (int i = chance.nextInt(5); i > 2 && !text.isEmpty(); i--) {
      text = maker.spoiled(text);
    }
    for (int from = 0; from < text.length(); from += 20) {
      int[] n = Check.numbersAt(text, from);
      same("feed", x.feed(n[0], n[1], n[2], n[3], n[4]), o.feed(n[0], n[1], n[2], n[3], n[4]));
    }
    same("cut", x.cut(text.length()), o.cut(text.length()));
    same("read()", x.read(), o.read());
    same("place()", x.place(), o.place());
  }

  private void lookAround() {
    for (int what = -1; what <= 13; what++) {
      same("count(" + what + ")", x.count(what), o.count(what));
    }
    for (int k = -1; k <= 16; k++) {
      for (int what = -1; what <= 7; what++) {
        same("kind(" + k + ", " + what + ")", x.kind(k, what), o.kind(k, what));
      }
      for (int other = -1; other <= 16; other++) {
        same("rule(" + k + ", " + other + ")", x.rule(k, other), o.rule(k, other));
      }
    }
    for (int n = -1; n <= 401; n++) {
      same("agent(" + n + ")", x.agent(n), o.agent(n));
      for (int p = -1; p <= 5 && o.agent(n) >= 0; p++) {
        same("wired(" + n + ", " + p + ")", x.wired(n, p), o.wired(n, p));
      }
    }
    for (int e = -1; e <= 8; e++) {
      same("end(" + e + ")", x.end(e), o.end(e));
    }
    for (int i = -1; i <= 3; i++) {
      same("pair(" + i + ")", x.pair(i), o.pair(i));
    }
    for (int i = -1; i <= 51; i++) {
      same("trace(" + i + ")", x.trace(i), o.trace(i));
    }
    for (int s = -1; s <= 4; s++) {
      same("like(" + s + ")", x.like(s), o.like(s));
    }
    same("reached()", x.reached(), o.reached());
    printAll();
  }

  private void printAll() {
    for (int e = -1; e <= 8; e++) {
      same("print(" + e + ")", x.print(e), o.print(e));
      for (int i = -1; i < 1 || o.out(i - 1) >= 0; i++) {
        same("out(" + i + ")", x.out(i), o.out(i));
      }
    }
  }

  private void callOne() {
    int s = chance.nextInt(5) - (chance.nextInt(10) == 0 ? 1 : 0);
    int n = chance.nextInt(chance.nextInt(4) == 0 ? 60 : 5);
    switch (chance.nextInt(9)) {
      case 0 -> same("keep(" + s + ")", x.keep(s), o.keep(s));
      case 1 -> same("back(" + s + ")", x.back(s), o.back(s));
      case 2 -> same("draw(" + n + ")", x.draw(n - 20), o.draw(n - 20));
      case 3, 4 -> same("step(" + n + ")", x.step(n), o.step(n));
      case 5 -> stepAlive();
      default -> {
        int order = chance.nextInt(4);
        same("run(" + order + ", " + n + ")", x.run(order, n), o.run(order, n));
        same("count(11)", x.count(11), o.count(11));
        same("count(4)", x.count(4), o.count(4));
        same("reached()", x.reached(), o.reached());
      }
    }
  }

  private void stepAlive() {
    int alive = o.count(5);
    if (alive > 0) {
      int i = chance.nextInt(alive);
      int n = o.pair(i);
      same("pair(" + i + ")", x.pair(i), n);
      int either = chance.nextBoolean() ? n : o.wired(n, 0) / 8;
      same("step(" + either + ")", x.step(either), o.step(either));
    }
  }
}
