import java.util.Random;

/** Calls with any arguments in any state: none throws, none is endless, and a refusal changes nothing. */
public final class AnyCallTest {
  private static final Check CHECK = new Check("AnyCallTest");
  private static final int[] EDGES = {Integer.MIN_VALUE, Integer.MIN_VALUE + 1, -3201, -401, -17, -9, -5, -2, -1, 0, 1, 2, 3, 4, 5, 7, 8,
      15, 16, 17, 49, 50, 51, 399, 400, 401, 2999, 3000, 3001, 3199, 3200, 3999, 4000, 4001, Integer.MAX_VALUE - 1, Integer.MAX_VALUE};

  public static void main(String[] args) {
    for (int i = 0; i < 300 && CHECK.wrongSoFar() < 20; i++) {
      callAny(i);
    }
    CHECK.close();
  }

  private static void callAny(long seed) {
    Random chance = new Random(seed);
    TextMaker maker = new TextMaker(seed);
    HeadNets x = new HeadNets();
    for (int call = 0; call < 512; call++) {
      if (call % 100 == 0) {
        Check.read(x, chance.nextInt(3) == 0 ? maker.spoiled(maker.book()) : maker.book());
      }
      String before = chance.nextInt(8) == 0 ? portrait(x) : null;
      int answer = callOne(x, chance);
      boolean refused = answer == HeadNets.UNKNOWN || answer == HeadNets.OUTSIDE || answer == HeadNets.STATE || answer == HeadNets.FULL;
      if (refused && before != null) {
        CHECK.due("what is there after a refusal", portrait(x), before);
      }
      symmetric(x);
    }
  }

  private static int any(Random chance) {
    return chance.nextBoolean() ? EDGES[chance.nextInt(EDGES.length)] : chance.nextInt(12);
  }

  private static int callOne(HeadNets x, Random chance) {
    int a = any(chance);
    int b = any(chance);
    switch (chance.nextInt(21)) {
      case 0: return x.feed(chance.nextInt(), a, b, chance.nextInt(), 0x6e657420);
      case 1: return x.cut(a);
      case 2: return chance.nextInt(20) == 0 ? x.read() : x.place();
      case 3: return x.count(a);
      case 4: return x.kind(a, b);
      case 5: return x.rule(a, b);
      case 6: return x.agent(a);
      case 7: return x.wired(a, b) < -1000 ? x.wired(a, b) : 0;
      case 8: return x.end(a) < -1000 ? x.end(a) : 0;
      case 9: return x.pair(a);
      case 10: return x.step(a);
      case 11: return x.run(a, b);
      case 12: return x.run(chance.nextInt(4), chance.nextInt(5));
      case 13: return x.draw(a);
      case 14: return x.trace(a);
      case 15: return x.keep(a);
      case 16: return x.back(a);
      case 17: return x.like(a);
      case 18: return x.reached();
      case 19: return x.print(a);
      default: return x.out(a);
    }
  }

  /** All that calls tell without changing anything (but for THE TAPE and THE DRAW). */
  private static String portrait(HeadNets x) {
    StringBuilder text = new StringBuilder();
    for (int i = 0; i < 13; i++) {
      text.append(x.count(i)).append(' ');
    }
    for (int n = 0; n < 400; n++) {
      for (int p = 0; p < 5; p++) {
        text.append(x.agent(n)).append(x.wired(n, p));
      }
    }
    for (int i = 0; i < 50; i++) {
      text.append(x.end(i)).append(x.trace(i)).append(x.like(i));
    }
    return text.append(x.place()).append(Check.out(x)).toString();
  }

  /** What is wired to something has that wired to it. */
  private static void symmetric(HeadNets x) {
    int agents = 0;
    for (int n = 0; n < 400; n++) {
      int kind = x.agent(n);
      agents += kind >= 0 ? 1 : 0;
      for (int p = 0; kind >= 0 && p < x.kind(kind, 0); p++) {
        int far = x.wired(n, p);
        int near = far >= 0 ? x.wired(far / 8, far % 8) : x.end(-2 - far);
        if (near != 8 * n + p) {
          CHECK.due("the other end of port " + p + " of " + n, near, 8 * n + p);
        }
        if (far >= 0 && x.kind(kind, 2 + p) != -1 - x.kind(x.agent(far / 8), 2 + far % 8)) {
          CHECK.due("ports that do not fit", 1, 0);
        }
      }
    }
    CHECK.due("count(2)", x.count(2), agents);
  }
}
