import java.util.ArrayList;
import java.util.List;

/** Promises 13 to 16: step, run, draw, trace. */
public final class StepTest {
  private static final Check CHECK = new Check("StepTest");
  private static final String KINDS = "kind A a+(a-, a+); kind B a-(a+, a-); kind P a+; kind M a-; kind Z a+(a-); kind Y a-(a+); ";

  public static void main(String[] args) {
    refusals();
    numbersOfNewAgents();
    eitherAgent();
    joins();
    rings();
    crowded();
    orders();
    rounds();
    drawing();
    traces();
    CHECK.close();
  }

  private static void refusals() {
    HeadNets x = Check.with(KINDS + "rule P >< M; net P = M, Z(P) = M, q = P;");
    CHECK.due("step(-1)", x.step(-1), HeadNets.UNKNOWN);
    CHECK.due("step(6)", x.step(6), HeadNets.UNKNOWN);
    CHECK.due("step(400)", x.step(400), HeadNets.UNKNOWN);
    CHECK.due("step(2): a dead pair", x.step(2), HeadNets.STATE);
    CHECK.due("step(3): in no pair", x.step(3), HeadNets.STATE);
    CHECK.due("step(5): at an end", x.step(5), HeadNets.STATE);
    CHECK.due("count(8)", x.count(8), 0);
    CHECK.due("run(-1, 1)", x.run(-1, 1), HeadNets.OUTSIDE);
    CHECK.due("run(4, 1)", x.run(4, 1), HeadNets.OUTSIDE);
    CHECK.due("run(0, -1)", x.run(0, -1), HeadNets.OUTSIDE);
    CHECK.due("run(0, 3001)", x.run(0, 3001), HeadNets.OUTSIDE);
    for (int order = 0; order < 4; order++) {
      CHECK.due("run(" + order + ", 0)", x.run(order, 0), 0);
    }
    CHECK.due("count(10) after run(2, 0)", x.count(10), 0);
    CHECK.due("step(1)", x.step(1), 1);
    CHECK.due("step(1) again", x.step(1), HeadNets.UNKNOWN);
    CHECK.due("run(2, 9): dead pairs do not step", x.run(2, 9), 0);
    CHECK.due("count(10)", x.count(10), 0);
  }

  private static void numbersOfNewAgents() {
    HeadNets x = Check.with(KINDS + "rule P >< M : Z(P) = Y(M), P = M; net Z(P) = M, P = M, q = P;");
    CHECK.due("step(3)", x.step(3), 1);
    // Z P Y M P M take 3, 4 and then 6 on: 5 is the P at the END
    int[] kinds = {4, 2, 3, 4, 2, 2, 5, 3, 2, 3};
    for (int n = 0; n < kinds.length; n++) {
      CHECK.due("agent(" + n + ")", x.agent(n), kinds[n]);
    }
    CHECK.due("agent(10)", x.agent(10), HeadNets.UNKNOWN);
    CHECK.due("wired(3, 0)", x.wired(3, 0), 48);
    CHECK.due("wired(6, 1)", x.wired(6, 1), 56);
    CHECK.due("wired(8, 0)", x.wired(8, 0), 72);
    CHECK.due("end(0)", x.end(0), 40);
  }

  private static void eitherAgent() {
    String text = KINDS + "rule Z(x) >< Y(y) : x = M, y = P; net Y(p) = Z(q), Z(r) = Y(s);";
    for (int n = 0; n < 4; n++) {
      HeadNets x = Check.with(text);
      CHECK.due("step(" + n + ")", x.step(n), 1);
      int least = n < 2 ? 0 : 2;
      CHECK.due("the first new one", x.agent(least), 3);
      CHECK.due("the second new one", x.agent(least + 1), 2);
      // M comes to where Z's port was wired, P to where Y's was
      CHECK.due("Z's wire", x.end(n < 2 ? 1 : 2), 8 * least);
      CHECK.due("Y's wire", x.end(n < 2 ? 0 : 3), 8 * (least + 1));
    }
  }

  private static void joins() {
    String rule = KINDS + "rule A(x, y) >< B(v, u) : x = v, y = u; ";
    HeadNets x = Check.with(rule + "net A(a, b) = B(c, d);");
    x.step(0);
    endsDue(x, -4, -5, -2, -3);
    HeadNets y = Check.with(rule + "net A(a, b) = B(c, b);");
    y.step(0);
    endsDue(y, -3, -2);
    CHECK.due("a wire from port to port closes", y.count(4), 1);
    HeadNets z = Check.with(rule + "net A(e, e) = B(M, P);");
    z.step(1);
    CHECK.due("wired(2, 0)", z.wired(2, 0), 24);
    CHECK.due("the joined pair", z.pair(0), HeadNets.NONE);
    CHECK.due("is a dead one", z.count(6), 1);
    HeadNets twice = Check.with(KINDS + "rule A(x, x) >< B(y, y); net A(a, b) = B(c, d);");
    twice.step(0);
    endsDue(twice, -3, -2, -5, -4);
    HeadNets across = Check.with(KINDS + "rule A(x, y) >< B(x, y); net A(a, b) = B(c, d), A(P, h) = B(g, f);");
    across.run(0, 2);
    endsDue(across, -4, -5, -2, -3, -8, 24, -6);
    HeadNets through = Check.with(KINDS + "rule A(x, y) >< B(v, u) : x = M, y = P, v = P, u = M; net A(a, a) = B(b, c);");
    through.step(0);
    // M P P M have 0 1 2 3; x and y were wired to one another
    CHECK.due("wired(0, 0)", through.wired(0, 0), 8);
    CHECK.due("wired(1, 0)", through.wired(1, 0), 0);
    endsDue(through, 16, 24);
    HeadNets own = Check.with(KINDS + "rule Z(x) >< Y(y) : x = Y(q), y = Z(q); net Z(m) = Y(m);");
    own.step(0);
    CHECK.due("new heads meet", own.pair(0), 0);
    CHECK.due("wired(0, 1)", own.wired(0, 1), 9);
    CHECK.due("run without end", own.run(3, 3000), 3000);
    CHECK.due("count(8)", own.count(8), 3001);
    HeadNets named = Check.with(KINDS + "rule Z(x) >< Y(y) : x = a, a = b, b = c, c = y; net Z(m) = Y(n);");
    named.step(0);
    endsDue(named, -3, -2);
  }

  private static void endsDue(HeadNets x, int... due) {
    CHECK.due("count(3)", x.count(3), due.length);
    for (int e = 0; e < due.length; e++) {
      CHECK.due("end(" + e + ")", x.end(e), due[e]);
    }
  }

  private static void rings() {
    HeadNets x = Check.with(KINDS + "rule P >< M : x = x, y = z, z = y; net P = M, P = M, t = t, u = v, v = w, w = u;");
    CHECK.due("count(4)", x.count(4), 2);
    x.step(0);
    CHECK.due("count(4)", x.count(4), 4);
    x.keep(0);
    x.step(2);
    CHECK.due("count(4)", x.count(4), 6);
    x.back(0);
    CHECK.due("count(4)", x.count(4), 4);
    HeadNets one = Check.with(KINDS + "rule A(x, y) >< B(v, u) : x = v, y = u; net A(p, p) = B(q, q);");
    one.step(0);
    CHECK.due("four slots in one ring", one.count(4), 1);
    HeadNets two = Check.with(KINDS + "rule A(x, y) >< B(v, u) : x = v, y = u; net A(p, q) = B(p, q);");
    two.step(0);
    CHECK.due("two rings", two.count(4), 2);
    HeadNets loops = Check.with(KINDS + "rule A(x, x) >< B(v, v); net A(p, p) = B(q, q);");
    loops.step(0);
    CHECK.due("loops on loops", loops.count(4), 2);
  }

  private static void crowded() {
    String text = "kind A a+; kind B a-; rule A >< B : A = B, A = B; net " + pairs(100) + ";";
    HeadNets x = Check.with(text);
    CHECK.due("count(2)", x.count(2), 200);
    CHECK.due("run", x.run(0, 3000), 100);
    CHECK.due("count(2)", x.count(2), 400);
    CHECK.due("count(9)", x.count(9), 400);
    CHECK.due("count(11)", x.count(11), 1);
    CHECK.due("count(8)", x.count(8), 100);
    CHECK.due("step(0)", x.step(0), 0);
    CHECK.due("step(399)", x.step(399), 0);
    CHECK.due("agent(399) stays", x.agent(399), 1);
    CHECK.due("trace(49)", x.trace(49), 1);
    CHECK.due("run(2, 0)", x.run(2, 0), 0);
    CHECK.due("count(11): n were done", x.count(11), 0);
    CHECK.due("run(2, 1)", x.run(2, 1), 0);
    CHECK.due("count(11)", x.count(11), 1);
    CHECK.due("count(10)", x.count(10), 1);
    CHECK.due("run(5, 1)", x.run(5, 1), HeadNets.OUTSIDE);
    CHECK.due("count(11): a refusal changes nothing", x.count(11), 1);
    // the latest run() is still that one
    CHECK.due("read()", x.read(), 0);
    CHECK.due("count(11) after read()", x.count(11), 1);
    HeadNets byOne = Check.with("kind A a+; kind B a-; kind S a+(a-); rule A >< B : S(A) = B; rule S(x) >< B : x = B, A = B; net "
        + pairs(100) + ";");
    CHECK.due("400 may be, 401 not", byOne.run(2, 3000), 200);
    CHECK.due("count(2)", byOne.count(2), 400);
    CHECK.due("count(11)", byOne.count(11), 1);
    HeadNets even = Check.with("kind A a+; kind B a-; kind C a+; rule A >< B : A = B, C = B; rule C >< B : C = B; net " + pairs(100) + ";");
    CHECK.due("run to 400", even.run(0, 100), 100);
    CHECK.due("count(11)", even.count(11), 0);
    CHECK.due("a step that keeps 400", even.step(even.pair(199)), 1);
    CHECK.due("count(2)", even.count(2), 400);
    CHECK.due("a round up to the first that is too much", even.run(2, 3000), 0);
  }

  private static String pairs(int n) {
    return "A = B, ".repeat(n - 1) + "A = B";
  }

  private static void orders() {
    String text = KINDS + "rule P >< M; rule Z(x) >< M : x = M; net P = M, Z(P) = M, Z(Z(P)) = M;";
    HeadNets least = Check.with(text);
    CHECK.due("run(0, 9)", least.run(0, 9), 6);
    // each M that comes has number 0, so it is the lesser one
    tracesDue(least, 3 * 16 + 2, 3 * 16 + 4, 4 * 16 + 3, 3 * 16 + 2, 4 * 16 + 3, 2 * 16 + 3);
    HeadNets greatest = Check.with(text);
    CHECK.due("run(1, 9)", greatest.run(1, 9), 6);
    HeadNets limited = Check.with(text);
    CHECK.due("run(1, 1)", limited.run(1, 1), 1);
    CHECK.due("the greatest went", limited.trace(0), 4 * 16 + 3);
    CHECK.due("its number is taken anew", limited.agent(5), 3);
    CHECK.due("agent(8) is gone", limited.agent(8), HeadNets.UNKNOWN);
    CHECK.due("pair(2)", limited.pair(2), 5);
    CHECK.due("run(0, 1)", limited.run(0, 1), 1);
    CHECK.due("the least went", limited.trace(0), 2 * 16 + 3);
    CHECK.due("agent(0)", limited.agent(0), HeadNets.UNKNOWN);
  }

  /** Due traces, the latest step first. */
  private static void tracesDue(HeadNets x, int... due) {
    for (int i = 0; i < due.length; i++) {
      CHECK.due("trace(" + i + ")", x.trace(i), due[i]);
    }
    CHECK.due("trace(" + due.length + ")", x.trace(due.length), HeadNets.NONE);
  }

  private static void rounds() {
    String text = KINDS + "rule P >< M; rule Z(x) >< M : x = M; net P = M, Z(P) = M, Z(Z(P)) = M;";
    HeadNets x = Check.with(text);
    CHECK.due("run(2, 3)", x.run(2, 3), 3);
    CHECK.due("count(10): one round", x.count(10), 1);
    tracesDue(x, 4 * 16 + 3, 4 * 16 + 3, 2 * 16 + 3);
    CHECK.due("run(2, 1)", x.run(2, 1), 1);
    CHECK.due("count(10)", x.count(10), 2);
    CHECK.due("run(2, 9) begins a new one", x.run(2, 9), 2);
    CHECK.due("count(10)", x.count(10), 4);
    // what comes in a round waits for the next one
    HeadNets y = Check.with(KINDS + "rule P >< M : Z(P) = M; rule Z(x) >< M : x = M, P = M; net P = M, P = M;");
    CHECK.due("run(2, 2)", y.run(2, 2), 2);
    tracesDue(y, 2 * 16 + 3, 2 * 16 + 3);
    CHECK.due("run(2, 3)", y.run(2, 3), 3);
    CHECK.due("count(10)", y.count(10), 3);
    CHECK.due("a third of the second round", y.trace(1), 4 * 16 + 3);
  }

  private static void drawing() {
    StringBuilder net = new StringBuilder();
    for (int i = 0; i < 15; i++) {
      net.append("kind K").append(i).append(" a+; ");
    }
    net.append("kind M a-; ");
    for (int i = 0; i < 15; i++) {
      net.append("rule K").append(i).append(" >< M; ");
    }
    net.append("net ");
    for (int i = 0; i < 15; i++) {
      net.append(i == 0 ? "" : ", ").append("K").append(i).append(" = M");
    }
    net.append(";");
    drawnDue(Check.with(net.toString()), 1);
    for (int seed : new int[] {0, 5, -1, Integer.MIN_VALUE, Integer.MAX_VALUE}) {
      HeadNets x = Check.with(net.toString());
      CHECK.due("draw(" + seed + ")", x.draw(seed), 1);
      drawnDue(x, seed);
    }
    HeadNets y = Check.with(net.toString());
    y.run(3, 15);
    CHECK.due("nothing is drawn without a pair", y.run(3, 5), 0);
    // THE DRAW goes on from there, over read()
    long draw = 1;
    for (int i = 0; i < 16; i++) {
      draw = draw * 6364136223846793005L + 1442695040888963407L;
    }
    Check.read(y, net.toString());
    y.run(3, 1);
    CHECK.due("the 16th drawn", y.trace(0), 16 * (int) ((draw >>> 33) % 15) + 15);
  }

  private static void drawnDue(HeadNets x, long seed) {
    List<Integer> left = new ArrayList<>();
    for (int i = 0; i < 15; i++) {
      left.add(i);
    }
    long draw = seed;
    for (int i = 0; i < 15; i++) {
      draw = draw * 6364136223846793005L + 1442695040888963407L;
      int kind = left.remove((int) ((draw >>> 33) % left.size()));
      CHECK.due("run(3, 1)", x.run(3, 1), 1);
      CHECK.due("step " + i + " from " + seed, x.trace(0), 16 * kind + 15);
    }
  }

  private static void traces() {
    HeadNets x = Check.with(KINDS + "rule P >< M : Z(P) = M; rule Z(x) >< M : x = M; net M = P;");
    CHECK.due("run(0, 60)", x.run(0, 60), 60);
    for (int i = 0; i < 50; i++) {
      CHECK.due("trace(" + i + ")", x.trace(i), i % 2 == 0 ? 4 * 16 + 3 : 3 * 16 + 2);
    }
    CHECK.due("trace(50)", x.trace(50), HeadNets.NONE);
    CHECK.due("trace(-1)", x.trace(-1), HeadNets.NONE);
    HeadNets y = Check.with(KINDS + "rule P >< M; rule Z(x) >< M : x = M; net M = P, Z(P) = M;");
    y.run(0, 2);
    tracesDue(y, 4 * 16 + 3, 3 * 16 + 2);
    y.keep(0);
    y.back(0);
    tracesDue(y, 4 * 16 + 3, 3 * 16 + 2);
  }
}
