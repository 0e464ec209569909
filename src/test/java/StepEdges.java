import java.util.ArrayList;
import java.util.List;

/** Boundary cases of the document's section 3: numbers, pairs, steps, orders. */
final class StepEdges {
  private static final String PM = "kind P a+; kind M a-; ";
  /** Kinds 0 and 1 with four ports each, all of which fit to one another. */
  private static final String EIGHT = "kind A a+(a-, a-, a-, a-); kind B a-(a+, a+, a+, a+); kind P a+; kind M a-; ";
  private static final String ACROSS = EIGHT + "rule A(a, b, c, d) >< B(e, f, g, h) : a = e, b = f, c = g, d = h; ";

  private final Edges edges;

  private StepEdges(Edges edges) {
    this.edges = edges;
  }

  /** Kinds K0 to K14 and M; each K can meet an M, and then both are gone; there is one pair of each. */
  static String fifteenPairs() {
    return Texts.kinds(15) + "kind M a-; " + Texts.repeat(15, "rule K# >< M; ") + "net " + Texts.joined(15, "K# = M") + ";";
  }

  /**
   * G with H become one agent more, D with H two more, K with H as many, V with H none; G's pairs have
   * the numbers 0, 2 and 4, K's 6, V's 8, and all others are those of D. 398 agents.
   */
  static HeadNets with398() {
    HeadNets x = Check.with("kind G a+; kind H a-; kind D a+; kind K a+; kind V a+; kind S a+(a-); "
        + "rule G >< H : S(G) = H; rule D >< H : D = H, D = H; rule K >< H : K = H; rule V >< H; "
        + "net G = H, G = H, G = H, K = H, V = H, " + Texts.joined(90, "D = H") + ";");
    x.run(1, 104);
    return x;
  }

  static void ask(Edges edges) {
    StepEdges of = new StepEdges(edges);
    edges.section("Section 3");
    of.numbers();
    of.pairs();
    of.newAgents();
    of.joins();
    of.portToPort();
    of.rings();
    of.crowded();
    of.leastAndGreatest();
    of.rounds();
    of.draws();
  }

  private void numbers() {
    edges.says("THE NET has AGENTS, at most 400, with numbers: each that comes has the least that is free.");
    HeadNets x = with398();
    edges.due("count(2)", x.count(2), 398);
    edges.due("agent(397)", x.agent(397) >= 0 ? 1 : 0, 1);
    edges.due("agent(398)", x.agent(398), HeadNets.UNKNOWN);
    edges.due("step(0) to 399", x.step(0), 1);
    edges.due("agent(398)", x.agent(398), 1);
    edges.due("step(2) to 400", x.step(2), 1);
    edges.due("agent(399)", x.agent(399), 1);
    edges.due("agent(400)", x.agent(400), HeadNets.UNKNOWN);
    edges.due("wired(399, 0)", x.wired(399, 0), 16);
    HeadNets y = Check.with("kind P a+; kind M a-; kind G a+; kind H a-; kind S a+(a-); rule P >< M; "
        + "rule G >< H : S(G) = H, P = M; net P = M, G = H, e = P, P = M;");
    y.step(5);
    y.step(2);
    // 5 and 6 were free, then 2 and 3 as well; 4 is the P at the END, 0 and 1 a PAIR
    edges.dueRow("agent", y::agent, 0, 1, 4, 2, 0, 3, 0, 1, HeadNets.UNKNOWN);
    HeadNets first = Check.with("kind P a+; kind M a-; kind G a+; kind H a-; rule P >< M; rule G >< H : P = M; "
        + "net P = M, G = H;");
    first.step(0);
    first.step(2);
    edges.dueRow("agent", first::agent, 0, 1, HeadNets.UNKNOWN, HeadNets.UNKNOWN);

    edges.says("A net's AGENTS come as their BIG NAMES stand in the text.");
    HeadNets z = Check.with("kind N a+(a-, a-); kind P a+; kind M a-; net M = N(N(P, x), P), P = M;");
    edges.dueRow("agent", z::agent, 2, 0, 0, 1, 1, 1, 2, HeadNets.UNKNOWN);
    HeadNets all = Check.with(PM + "net " + Texts.joined(100, "P = M") + ";");
    edges.due("agent(198)", all.agent(198), 0);
    edges.due("agent(199)", all.agent(199), 1);
    edges.due("agent(200)", all.agent(200), HeadNets.UNKNOWN);
  }

  private void pairs() {
    edges.says("A PAIR: two AGENTS whose HEADS are wired to one another, numbered by the lesser AGENT; it is ALIVE, if their KINDS have "
        + "a RULE, else DEAD.");
    String kinds = "kind P a+; kind M a-; kind Q a+; kind S a+(a-); rule M >< P; ";
    HeadNets x = Check.with(kinds + "net p = P, M = q, Q = M, S(P) = M, p = M, q = P;");
    // P M, Q M, S P M, M P are 0 to 8; names make PAIRS of 0 and 7, 1 and 8
    edges.due("ALIVE", x.count(5), 2);
    edges.due("DEAD: Q with M, S with M", x.count(6), 2);
    edges.dueRow("pair", x::pair, 0, 1, HeadNets.NONE);
    HeadNets none = Check.with(kinds + "net P = e, S(P) = f, S(x) = x;");
    edges.due("a HEAD at an END, at another PORT, at its own: ALIVE", none.count(5), 0);
    edges.due("DEAD", none.count(6), 0);
    edges.dueRow("step", none::step, HeadNets.STATE, HeadNets.STATE, HeadNets.STATE, HeadNets.STATE);
    // P's KIND and S's have a RULE, but at a PORT but the HEAD P does not meet S
    HeadNets port = Check.with("kind P a+; kind M a-; kind S a-(a-); rule P >< S(x) : x = M; net P = S(P), S(P) = e;");
    edges.due("ALIVE", port.count(5), 1);
    edges.due("DEAD", port.count(6), 0);
    edges.dueRow("pair", port::pair, 0, HeadNets.NONE);
    edges.due("step(2) at a PORT of an AGENT in a PAIR", port.step(2), HeadNets.STATE);
    edges.due("step(4) at a PORT of another one", port.step(4), HeadNets.STATE);
  }

  private void newAgents() {
    edges.says("A STEP of a PAIR that is ALIVE: both AGENTS go; then the AGENTS of the RULE's links come, as their BIG NAMES stand there;");
    HeadNets none = Check.with(PM + "rule P >< M; net P = M, x = P;");
    edges.due("step(0)", none.step(0), 1);
    edges.dueRow("agent", none::agent, HeadNets.UNKNOWN, HeadNets.UNKNOWN, 0);
    HeadNets eleven = Check.with(PM + "kind S a+(a-); rule P >< M : M = S(P), " + Texts.joined(4, "P = M") + "; net x = P, M = P;");
    edges.due("step(2) to eleven", eleven.step(2), 1);
    edges.dueRow("agent", eleven::agent, 0, 1, 2, 0, 0, 1, 0, 1, 0, 1, 0, 1, HeadNets.UNKNOWN);
    HeadNets most = Check.with(PM + "rule P >< M : " + Texts.joined(6, "M = P") + "; net P = M;");
    edges.due("step(1) to twelve", most.step(1), 1);
    edges.dueRow("agent", most::agent, 1, 0, 1, 0, 1, 0, 1, 0, 1, 0, 1, 0, HeadNets.UNKNOWN);
    edges.due("the twelfth is wired", most.wired(11, 0), 80);
    HeadNets own = Check.with(PM + "kind C a+(a-, b-, b+); rule P >< M : C(x, y, y) = x; net M = P;");
    edges.due("step(0) to one", own.step(0), 1);
    edges.dueRow("wired(0, ..)", p -> own.wired(0, p), 1, 0, 3, 2);
  }

  private void joins() {
    edges.says("WIRES are joined as the links tell, with what the PORTS of both were wired to in place of the NAMES of the sides");
    HeadNets x = Check.with(EIGHT + "rule A(a, b, c, d) >< B(e, f, g, h) : a = M, b = M, c = M, d = M, e = P, f = P, g = P, h = P; "
        + "net B(e, f, g, M) = A(a, P, c, d);");
    edges.due("step(0)", x.step(0), 1);
    // of B M A P only 1 and 3 stay; M M M M P P P P come to 0 2 4 5 and 6 7 8 9
    edges.dueRow("ENDS e f g, a c d", x::end, 48, 56, 64, 0, 32, 40);
    edges.due("what P is wired to", x.wired(3, 0), 16);
    edges.due("what M is wired to", x.wired(1, 0), 72);

    edges.says("(a NAME of sides that is wired to another one joins what both were wired to;");
    HeadNets ends = Check.with(ACROSS + "net A(a, b, c, d) = B(e, f, g, h);");
    ends.step(0);
    edges.dueRow("end", ends::end, -6, -7, -8, -9, -2, -3, -4, -5);
    HeadNets agents = Check.with(ACROSS + "net A(P, b, c, P) = B(M, f, M, h);");
    // A P P B M M are 0 to 5
    edges.due("step(3)", agents.step(3), 1);
    edges.due("an AGENT and an AGENT", agents.wired(1, 0), 32);
    edges.due("an END and an AGENT", agents.end(1), 40);
    edges.due("an AGENT and an END", agents.wired(2, 0), -5);
    edges.due("an END and an END", agents.end(0), -4);
    HeadNets same = Check.with("kind A a+(b-); kind B a-(b+); rule A(x) >< B(x); net A(p) = B(q);");
    same.step(0);
    edges.dueRow("a NAME that stands in both sides", same::end, -3, -2);
    HeadNets loop = Check.with("kind A a+(b-, b+); kind M a-; rule A(x, x) >< M; net A(p, q) = M;");
    loop.step(0);
    edges.dueRow("a NAME that stands twice in one", loop::end, -3, -2);
    HeadNets longWay = Check.with("kind A a+(b-); kind B a-(b+); rule A(x) >< B(y) : x = n0, n57 = y, " + WireEdges.chain(58)
        + "; net A(p) = B(q);");
    longWay.step(0);
    edges.dueRow("over 58 other NAMES", longWay::end, -3, -2);
  }

  private void portToPort() {
    edges.says("where a WIRE had gone from one of these PORTS to another one, that joins likewise;");
    // from p through all eight PORTS to q
    HeadNets all = Check.with(ACROSS + "net A(p, x, y, z) = B(x, y, z, q);");
    all.step(0);
    edges.dueRow("end", all::end, -3, -2);
    edges.due("RINGS", all.count(4), 0);
    HeadNets agents = Check.with(ACROSS + "net A(P, x, y, z) = B(x, y, z, M);");
    agents.step(0);
    // A P B M are 0 to 3
    edges.due("wired(1, 0)", agents.wired(1, 0), 24);
    edges.due("wired(3, 0)", agents.wired(3, 0), 8);
    HeadNets fresh = Check.with("kind A a+(b-); kind B a-(b+); kind F b+; kind G b-; rule A(x) >< B(y) : x = G, y = F; net A(p) = B(p);");
    fresh.step(0);
    edges.due("new AGENTS on both sides of it", fresh.wired(0, 0), 8);
    edges.due("seen from there", fresh.wired(1, 0), 0);
    HeadNets own = Check.with("kind C a+(b-, b+); kind M a-; kind F b+; kind G b-; rule C(x, y) >< M : x = G, y = F; net C(p, p) = M;");
    own.step(0);
    edges.due("both PORTS of one AGENT", own.wired(0, 0), 8);
    HeadNets one = Check.with("kind C a+(b-, b+); kind M a-; kind T c+(b-, b+); kind U c-; rule C(x, y) >< M : U = T(x, y); net C(p, p) = M;");
    one.step(0);
    edges.due("a new AGENT wired to itself", one.wired(1, 1), 10);
    edges.due("seen from there", one.wired(1, 2), 9);
  }

  private void rings() {
    edges.says("what comes to have nothing at its ends is a RING).");
    String[] nets = {"net A(p, q, r, s) = B(p, q, r, s);", "net A(p, q, r, s) = B(q, p, s, r);", "net A(p, q, r, s) = B(q, r, s, p);",
        "net A(p, q, r, e) = B(p, q, r, f);", "net A(e, f, g, h) = B(i, j, k, l);"};
    int[] due = {4, 2, 1, 3, 0};
    for (int i = 0; i < nets.length; i++) {
      HeadNets x = Check.with(ACROSS + nets[i]);
      edges.due("step(0) of " + nets[i], x.step(0), 1);
      edges.due("RINGS of " + nets[i], x.count(4), due[i]);
      edges.due("AGENTS of " + nets[i], x.count(2), 0);
    }
    HeadNets links = Check.with(PM + "rule P >< M : " + Texts.joined(60, "n# = n#") + "; net P = M, r = r;");
    edges.due("step(0)", links.step(0), 1);
    edges.due("those of 60 links beside the one that was there", links.count(4), 61);
    HeadNets around = Check.with(PM + "rule P >< M : " + WireEdges.circle(60) + "; net P = M;");
    around.step(0);
    edges.due("that of 60 NAMES", around.count(4), 1);
    HeadNets twice = Check.with("kind C a+(b-, b+); kind M a-; rule C(x, x) >< M; net C(p, p) = M;");
    twice.step(0);
    edges.due("a loop on a loop", twice.count(4), 1);
  }

  private void crowded() {
    edges.says("If there would be more than 400 AGENTS, there is no STEP: THE NET is CROWDED.");
    HeadNets x = with398();
    edges.due("step(0), 399", x.step(0), 1);
    edges.due("a STEP to 401", x.step(x.pair(5)), 0);
    edges.due("step(2), 400", x.step(2), 1);
    edges.due("step(4), 401", x.step(4), 0);
    edges.due("a STEP to 402", x.step(x.pair(4)), 0);
    edges.due("count(2)", x.count(2), 400);
    edges.due("count(8)", x.count(8), 106);
    edges.due("its AGENTS stay", x.agent(4), 0);
    edges.due("and their wire", x.wired(4, 0), 40);
    edges.due("a STEP that keeps 400", x.step(6), 1);
    edges.due("one to 398", x.step(8), 1);
    edges.due("step(4), 399", x.step(4), 1);
    edges.due("count(2)", x.count(2), 399);
    edges.due("count(9)", x.count(9), 400);
  }

  private void leastAndGreatest() {
    edges.says("ORDERS: 0: the least PAIR that is ALIVE.");
    String text = Texts.kinds(5) + "kind M a-; " + Texts.repeat(3, "rule K# >< M; ") + "net K4 = M, K0 = M, K1 = M, K2 = M, K3 = M;";
    HeadNets least = Check.with(text);
    edges.due("run(0, 2)", least.run(0, 2), 2);
    edges.dueRow("trace", least::trace, 16 + 5, 5);
    edges.due("run(0, 9)", least.run(0, 9), 1);
    edges.due("run(0, 9) with DEAD ones alone", least.run(0, 9), 0);

    edges.says("1: the greatest.");
    HeadNets greatest = Check.with(text);
    edges.due("run(1, 2)", greatest.run(1, 2), 2);
    edges.dueRow("trace", greatest::trace, 16 + 5, 32 + 5);
    edges.due("run(1, 9)", greatest.run(1, 9), 1);
    edges.due("run(1, 9) with DEAD ones alone", greatest.run(1, 9), 0);
    // by the lesser AGENT: the PAIR of 0 and 3 is less than that of 1 and 2
    HeadNets crossed = Check.with(text.substring(0, text.indexOf("net")) + "net K0 = x, K1 = M, x = M;");
    crossed.run(1, 1);
    edges.due("trace(0)", crossed.trace(0), 16 + 5);
  }

  private void rounds() {
    edges.says("2: in rounds: all PAIRS that are ALIVE as it begins, by numbers; then the next round.");
    // K0 becomes K1, K1 becomes K2 and a K0 beside it, K2 vanishes
    String text = Texts.kinds(3) + "kind M a-; rule K0 >< M : K1 = M; rule K1 >< M : K2 = M, K0 = M; rule K2 >< M; ";
    HeadNets x = Check.with(text + "net K1 = M, K2 = M, K0 = M;");
    edges.due("the first round", x.run(2, 3), 3);
    edges.dueRow("trace", x::trace, 3, 32 + 3, 16 + 3);
    // K2 came to 0, K0 to 6 while 2 to 5 were taken, K1 to 2 when that was free
    edges.dueRow("pair", x::pair, 0, 2, 6, HeadNets.NONE);
    edges.dueRow("agent", x::agent, 2, 3, 1, 3, HeadNets.UNKNOWN, HeadNets.UNKNOWN, 0, 3);
    edges.due("the second round", x.run(2, 3), 3);
    edges.dueRow("trace", x::trace, 3, 16 + 3, 32 + 3, 3, 32 + 3, 16 + 3, HeadNets.NONE);
    edges.due("rounds", x.count(10), 2);
    HeadNets none = Check.with(text + "net;");
    edges.due("without a PAIR", none.run(2, 9), 0);
    edges.due("no round begins", none.count(10), 0);
    HeadNets one = Check.with(text + "net K2 = M;");
    edges.due("one PAIR", one.run(2, 9), 1);
    edges.due("one round", one.count(10), 1);
  }

  private void draws() {
    edges.says("3: by THE DRAW, a long: DRAW times 6364136223846793005 and 1442695040888963407 (wrapping) first; then, with n PAIRS that "
        + "are ALIVE, the one at place (DRAW >>> 33) modulo n of them.");
    // reckoned apart from the class: DRAW >>> 33 from each seed on, where DRAW wraps and is below 0 again and again
    long[][] drawn = {{1, 908834774, 1093944153, 1392341196, 822192870, 1708211034, 1074839795},
        {0, 167951807, 218396424, 1299921937, 861605236, 823830125, 1204436891},
        {-1, 1574552488, 1490332343, 1207502677, 901017602, 2086932864, 1334033987},
        {Integer.MIN_VALUE, 920477172, 211848078, 284291539, 1321098736, 461631597, 1131569405},
        {Integer.MAX_VALUE, 822027124, 1496880690, 75649426, 441524103, 301647743, 1406901473}};
    for (long[] row : drawn) {
      HeadNets x = Check.with(fifteenPairs());
      x.draw((int) row[0]);
      List<Integer> left = new ArrayList<>();
      for (int k = 0; k < 15; k++) {
        left.add(k);
      }
      for (int i = 1; i < row.length; i++) {
        edges.due("run(3, 1)", x.run(3, 1), 1);
        edges.due("STEP " + i + " from " + row[0], x.trace(0), 16 * left.remove((int) (row[i] % left.size())) + 15);
      }
    }
    HeadNets one = Check.with(PM + "rule P >< M; net P = M;");
    edges.due("with one PAIR it is that", one.run(3, 9), 1);
    edges.due("with none there is no STEP", one.run(3, 9), 0);
    edges.due("and nothing is drawn: read()", Check.read(one, fifteenPairs()), 30);
    one.run(3, 1);
    edges.due("the second number from 1 on", one.trace(0), 16 * (1093944153 % 15) + 15);
    HeadNets full = Check.with(PM + "rule P >< M : P = M, P = M; net P = M;");
    full.run(0, 3000);
    edges.due("run(3, 9) of a full NET", full.run(3, 9), 0);
    edges.due("run(3, 9) again", full.run(3, 9), 0);
    Check.read(full, fifteenPairs());
    full.run(3, 1);
    edges.due("a number was drawn each time: the third one", full.trace(0), 16 * (1392341196 % 15) + 15);
  }
}
