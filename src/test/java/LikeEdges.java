/** Boundary cases of the document's section 4: what is like, waiting circles, trees, refusals. */
final class LikeEdges {
  /**
   * Each step of a C with its M turns the C's first two ports round and changes nothing else: behind two
   * steps all is as it was. Kinds are C 0, M 1, T 2, Y 3, Z 4, U 5.
   */
  private static final String TURNING = "kind C a+(b-, b-, b-); kind M a-; kind T c+(b+, b+); kind Y b+; kind Z b+; kind U c-; "
      + "rule C(x, y, z) >< M : C(y, x, z) = M; ";

  private final Edges edges;

  private LikeEdges(Edges edges) {
    this.edges = edges;
  }

  static void ask(Edges edges) {
    LikeEdges of = new LikeEdges(edges);
    edges.section("Section 4");
    of.numbering();
    of.otherEnds();
    of.sameWires();
    of.otherCounts();
    of.circles();
    of.trees();
    of.deepTrees();
    of.refusals();
  }

  /** Whether the net behind one step is like that before it, and that behind two steps. */
  private void turnedDue(int behindOne, String net) {
    HeadNets x = Check.with(TURNING + net);
    x.keep(0);
    edges.due("a step of " + net, x.run(0, 1), 1);
    edges.due("like(0) behind one step of " + net, x.like(0), behindOne);
    x.keep(1);
    edges.due("another step of " + net, x.run(0, 1), 1);
    edges.due("like(0) behind two steps of " + net, x.like(0), 1);
    edges.due("like(1) behind two steps of " + net, x.like(1), behindOne);
  }

  private static int likeItself(String text) {
    HeadNets x = Check.with(text);
    x.keep(3);
    return x.like(3);
  }

  private void numbering() {
    edges.says("LIKE are two NETS: AGENTS are numbered as they are reached: first what END 0 is wired to; then, again and again, the next "
        + "AGENT in the order of these numbers is gone through by its PORTS 0, 1, .., and what is wired there is reached;");
    edges.due("two empty NETS", likeItself(""), 1);
    edges.due("two without ENDS", likeItself("kind P a+; kind M a-; net P = M;"), 1);
    edges.due("two of ENDS alone", likeItself("net a = b, c = d, e = f, g = h;"), 1);
    HeadNets x = Check.with("kind P a+; kind M a-; kind S a+(a-); kind G a-(a+); rule P >< M; rule P >< G(r) : r = S(S(P)); "
        + "net P = M, P = G(e), P = M;");
    x.keep(0);
    x.step(2);
    x.step(0);
    x.keep(1);
    edges.due("what END 0 is wired to", x.end(0), 16);
    x.back(0);
    x.step(0);
    x.step(2);
    edges.due("what END 0 is wired to, with another number", x.end(0), 0);
    edges.due("like(1)", x.like(1), 1);
    edges.due("like(0)", x.like(0), 0);
    edges.due("reached()", x.reached(), 3);
    HeadNets up = Check.with("kind N a+(a-, a-); kind P a+; kind M a-; net N(N(P, e), P) = M;");
    edges.due("reached() from a PORT, by the HEAD", up.reached(), 5);
  }

  private void otherEnds() {
    edges.says("when all are gone through, likewise from END 1 on, and so on.");
    String kinds = "kind S a+(a-); kind P a+; kind M a-; ";
    edges.due("END 0 reaches nothing", Check.with(kinds + "net a = b, c = S(P);").reached(), 2);
    edges.due("each END reaches one", Check.with(kinds + "net " + Texts.joined(8, "e# = P") + ";").reached(), 8);
    edges.due("all from END 0, no more from END 1", Check.with(kinds + "net a = S(S(b));").reached(), 2);
    edges.due("what no END reaches", Check.with(kinds + "net a = S(P), S(P) = M;").reached(), 2);
    turnedDue(0, "net a = b, c = Z, C(Y, Z, d) = M;");
    turnedDue(0, "net a = b, c = d, e = f, g = Y, C(Y, Z, h) = M;");
  }

  private void sameWires() {
    edges.says("What is wired to what is the same in both by these numbers, with KINDS, and ENDS likewise;");
    // KINDS alone: what END 0 is at, then M, then the one and the other
    turnedDue(0, "net C(Y, Z, e) = M;");
    turnedDue(1, "net C(Y, Y, e) = M;");
    // wires alone
    turnedDue(0, "net C(p, q, e) = M, T(p, q) = f;");
    turnedDue(0, "net T(p, q) = f, C(q, p, e) = M;");
    turnedDue(0, "net C(p, Z, e) = M, T(g, p) = f;");
    headsAlone();
    // ENDS alone
    turnedDue(0, "net C(a, b, Y) = M;");
    turnedDue(0, "net a = b, c = d, e = f, C(g, h, Y) = M;");
    turnedDue(0, "net a = b, c = d, e = f, g = Y, C(h, Y, Y) = M;");
    HeadNets x = Check.with("kind K a+(b-); kind L a-(b+); rule K(x) >< L(y) : x = y; net K(a) = L(b), K(c) = L(d);");
    x.keep(0);
    x.step(0);
    x.keep(1);
    x.back(0);
    x.step(2);
    edges.due("ENDS joined in another place", x.like(1), 0);
    x.step(0);
    x.keep(2);
    edges.due("all joined", x.like(1), 0);
    edges.due("like itself", x.like(2), 1);
  }

  /** Turning C's ports round tells only by which HEADS meet, as all else there is the same. */
  private void headsAlone() {
    HeadNets x = Check.with("kind C a+(b-, b-, b-, b-); kind M a-(c+); kind K d+(b+); kind L d-(b+); "
        + "rule C(w, x, y, z) >< M(e) : C(x, w, y, z) = M(e); net C(p, q, r, s) = M(e), K(p) = L(r), K(q) = L(s);");
    x.keep(0);
    x.run(0, 1);
    edges.due("HEADS that meet others", x.like(0), 0);
    x.run(0, 1);
    edges.due("HEADS that meet the same again", x.like(0), 1);
  }

  private void otherCounts() {
    edges.says("and both have as many ENDS, AGENTS that are not reached (of each KIND), and RINGS.");
    String kinds = "kind P a+; kind M a-; kind Q a+; ";
    stepDiffers("a RING more", kinds + "rule P >< M : P = M, x = x; net P = M;");
    stepDiffers("two AGENTS fewer", kinds + "rule P >< M; net P = M, e = f;");
    stepDiffers("as many, but one of another KIND", kinds + "rule P >< M : Q = M; net P = M, e = f;");
    // A is wired to itself, so that one can come without any other AGENT
    stepDiffers("one more of the first KIND alone", "kind A a+(a-); kind P a+; kind M a-; rule P >< M : P = M, A(x) = x; net P = M;");
    stepDiffers("one more of the last KIND alone", Texts.kinds(14) + "kind M a-; kind A a+(a-); rule K0 >< M : K0 = M, A(x) = x; "
        + "net K0 = M;");
    HeadNets turned = Check.with("kind K a+(b-); kind L a+(b-); kind M a-; kind N a-; kind Y b+; rule K(x) >< M : L(x) = M; "
        + "rule L(x) >< N : K(x) = N; net K(e) = M, L(Y) = N;");
    turned.keep(0);
    edges.due("run(0, 9)", turned.run(0, 9), 2);
    edges.due("as many of each KIND in all, but L is reached in place of K", turned.like(0), 0);

    edges.says("(How those are wired is not looked at.)");
    turnedDue(1, "net C(Y, Z, Y) = M;");
    turnedDue(1, "net C(p, q, Y) = M, T(p, q) = U;");
    turnedDue(1, "net e = f, C(Y, Z, Z) = M, r = r;");
  }

  private void stepDiffers(String why, String text) {
    HeadNets x = Check.with(text);
    x.keep(0);
    edges.due("step(0) of " + text, x.step(0), 1);
    edges.due(why, x.like(0), 0);
    x.keep(1);
    x.back(0);
    edges.due(why + ", the other way round", x.like(1), 0);
  }

  private void circles() {
    edges.says("WAITING CIRCLES: AGENTS a, b, .., a, each one's HEAD wired to a PORT but the HEAD of the next one. How many there are: no "
        + "AGENT is in two.");
    String kinds = "kind A a+(a-); kind B a-(a+); kind D a+(a-, a-); kind Z a+; ";
    circlesDue(0, "");
    circlesDue(0, kinds + "net x = A(A(y));");
    circlesDue(0, kinds + "net A(x) = B(x);");
    circlesDue(0, kinds + "net A(A(x)) = B(B(x));");
    circlesDue(0, "net x = x;");
    circlesDue(1, kinds + "net x = A(x);");
    circlesDue(1, kinds + "net x = A(A(x));");
    circlesDue(1, kinds + "net x = D(y, A(A(Z))), y = D(A(e), x);");
    circlesDue(2, kinds + "net x = D(A(x), e), y = B(B(B(y)));");
    circlesDue(60, kinds + "net " + Texts.joined(60, "n# = A(n#)") + ";");
    StringBuilder net = new StringBuilder("net ");
    for (int i = 0; i < 20; i++) {
      net.append(i == 0 ? "" : ", ").append("n").append(i).append(" = ").append(Texts.nested(10, "n" + (i + 1) % 20));
    }
    circlesDue(1, kinds + net + ";");
    grownCircle(0);
    grownCircle(1);
    grownCircle(198);
  }

  private void circlesDue(int number, String text) {
    edges.due("count(7) of " + text, Check.with(text).count(7), number);
  }

  /** Each A in a chain becomes two S in a circle that its last step closes; without any it is a RING. */
  private void grownCircle(int chain) {
    StringBuilder net = new StringBuilder("net n0 = G(e, e)");
    int links = 0;
    for (int left = chain; left > 0; left -= 10) {
      net.append(", n").append(links++).append(" = ").append(Texts.nested(Math.min(left, 10), "n" + links));
    }
    HeadNets x = Check.with("kind A a+(a-); kind J a+; kind G a-(b+, b-); kind S b+(b-); rule A(x) >< G(r, l) : r = S(S(y)), x = G(y, l); "
        + "rule J >< G(r, l) : r = l; " + net + ", n" + links + " = J;");
    edges.due("count(7) before", x.count(7), 0);
    edges.due("steps", x.run(0, 3000), chain + 1);
    edges.due("AGENTS in the circle", x.count(2), 2 * chain);
    edges.due("count(7) of " + chain, x.count(7), chain == 0 ? 0 : 1);
    edges.due("RINGS", x.count(4), chain == 0 ? 1 : 0);
  }

  private void trees() {
    edges.says("THE TREE of an END: what it is wired to, PRINTED: an END as the byte # and its number; a HEAD as the BIG NAME of its AGENT, "
        + "and, if it has PORTS but the HEAD, in brackets, with commas, the TREES of what they are wired to; another PORT as the byte @.");
    HeadNets x = Check.with("kind Z a+; kind N1234567 a+(a-, a+, a-, a+); kind M a-(a+); kind S a+(a-); "
        + "net a = b, c = Z, d = N1234567(Z, p, S(Z), q), S(p) = M(f), S(q) = M(g), h = S(k);");
    String[] due = {"#1", "#0", "Z", "N1234567(Z,@,S(Z),@)", "@", "@", "S(#7)", "@"};
    for (int e = 0; e < due.length; e++) {
      edges.due("the tree of END " + e, Check.tree(x, e), due[e]);
    }
    HeadNets ends = Check.with("net a = b, c = d, e = f, g = h;");
    edges.due("END 6", Check.tree(ends, 6), "#7");
    edges.due("END 7", Check.tree(ends, 7), "#6");
    HeadNets own = Check.with("kind T a+(b-, b+); net e = T(x, x);");
    edges.due("PORTS wired to one another", Check.tree(own, 0), "T(@,@)");
  }

  private void deepTrees() {
    edges.says("AGENTS that are open within 40 others are printed as ~ (their BIG NAME is not told).");
    edges.due("Z within 39", chainTree(39, "Z"), "S(".repeat(39) + "Z" + ")".repeat(39));
    edges.due("Z within 40", chainTree(40, "Z"), "S(".repeat(40) + "~" + ")".repeat(40));
    edges.due("Z within 41", chainTree(41, "Z"), "S(".repeat(40) + "~" + ")".repeat(40));
    edges.due("an S within 39", chainTree(39, "S(Z)"), "S(".repeat(40) + "~" + ")".repeat(40));
    // ENDS and other PORTS are no AGENTS
    edges.due("an END within 40", chainTree(40, "f"), "S(".repeat(40) + "#1" + ")".repeat(40));
    edges.due("an END within 41", chainTree(41, "f"), "S(".repeat(40) + "~" + ")".repeat(40));
    edges.due("another PORT within 40", chainTree(40, "p, Z = M(p)"), "S(".repeat(40) + "@" + ")".repeat(40));
    edges.due("two within 40", chainTree(39, "W(Z, f)"), "S(".repeat(39) + "W(~,#1)" + ")".repeat(39));
  }

  private static String chainTree(int length, String inmost) {
    StringBuilder text = new StringBuilder("kind S a+(a-); kind Z a+; kind M a-(a+); kind W a+(a-, a-); net e = S(c1)");
    for (int i = 1; i < length; i++) {
      text.append(", c").append(i).append(" = S(c").append(i + 1).append(")");
    }
    return Check.tree(Check.with(text + ", c" + length + " = " + inmost + ";"), 0);
  }

  private void refusals() {
    edges.says("Calls answer, the first of these that fits: UNKNOWN (no such KIND, AGENT, END, SHELF), OUTSIDE (another number out of its "
        + "bounds), STATE (as told), FULL; then nothing changes.");
    // UNKNOWN goes before OUTSIDE and STATE
    edges.unchanged("kind(4, 7)", x -> x.kind(4, 7), HeadNets.UNKNOWN);
    edges.unchanged("kind(3, 7)", x -> x.kind(3, 7), HeadNets.OUTSIDE);
    edges.unchanged("rule(0, 4)", x -> x.rule(0, 4), HeadNets.UNKNOWN);
    edges.unchanged("agent(7)", x -> x.agent(7), HeadNets.UNKNOWN);
    edges.unchanged("wired(7, 1)", x -> x.wired(7, 1), HeadNets.UNKNOWN);
    edges.unchanged("wired(6, 1)", x -> x.wired(6, 1), HeadNets.OUTSIDE);
    edges.unchanged("end(1)", x -> x.end(1), HeadNets.UNKNOWN);
    edges.unchanged("step(7)", x -> x.step(7), HeadNets.UNKNOWN);
    edges.unchanged("step(2)", x -> x.step(2), HeadNets.STATE);
    edges.unchanged("run(4, 3001)", x -> x.run(4, 3001), HeadNets.OUTSIDE);
    edges.unchanged("keep(4)", x -> x.keep(4), HeadNets.UNKNOWN);
    edges.unchanged("back(4)", x -> x.back(4), HeadNets.UNKNOWN);
    edges.unchanged("back(0)", x -> x.back(0), HeadNets.STATE);
    edges.unchanged("like(4)", x -> x.like(4), HeadNets.UNKNOWN);
    edges.unchanged("like(0)", x -> x.like(0), HeadNets.STATE);
    edges.unchanged("print(1)", x -> x.print(1), HeadNets.UNKNOWN);
    edges.unchanged("count(13)", x -> x.count(13), HeadNets.OUTSIDE);
    edges.unchanged("cut(10)", x -> x.cut(10), HeadNets.OUTSIDE);
    HeadNets full = new HeadNets();
    Check.feed(full, " ".repeat(3981));
    edges.due("feed() to a full tape", full.feed(-1, -1, -1, -1, -1), HeadNets.FULL);
    edges.due("read() then", full.read(), 0);

    edges.plain("Ahead of the calls `feed`, `cut`, `read`, `place` the interface says: ---- texts.");
    edges.plain("Ahead of the calls `count`, `kind`, `rule`, `agent`, `wired`, `end`, `pair` the interface says: ---- what is there.");
    edges.plain("Ahead of the calls `step`, `run`, `draw`, `trace` the interface says: ---- steps.");
    edges.plain("Ahead of the calls `keep`, `back`, `like`, `reached` the interface says: ---- shelves.");
    edges.plain("Ahead of the calls `print`, `out` the interface says: ---- what comes out.");
  }
}
