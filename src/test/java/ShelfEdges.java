/** Boundary cases of promises 17 to 20: keep, back, like, reached. */
final class ShelfEdges {
  private static final String PM = "kind P a+; kind M a-; ";

  private final Edges edges;

  private ShelfEdges(Edges edges) {
    this.edges = edges;
  }

  static void ask(Edges edges) {
    ShelfEdges of = new ShelfEdges(edges);
    edges.promise(17);
    of.keeping();
    edges.promise(18);
    of.back();
    edges.promise(19);
    of.likeness();
    edges.promise(20);
    of.reaching();
  }

  private void keeping() {
    edges.says("SHELF s (0 .. 3) gets THE NET as it is: how many AGENTS.");
    HeadNets empty = new HeadNets();
    edges.dueRow("keep of an empty NET", empty::keep, 0, 0, 0, 0);
    edges.dueRow("back to it", empty::back, 0, 0, 0, 0);
    HeadNets x = Check.with(PM + "rule P >< M : y = y; net P = M, P = M, P = M, e = P;");
    for (int s = 0; s < 4; s++) {
      edges.due("keep(" + s + ")", x.keep(s), 7 - 2 * s);
      x.run(0, 1);
    }
    // each SHELF has its own, with its numbers and RINGS
    for (int s = 3; s >= 0; s--) {
      edges.due("back(" + s + ")", x.back(s), 7 - 2 * s);
      edges.due("its RINGS", x.count(4), s);
      edges.due("its least PAIR", x.pair(0), s == 3 ? HeadNets.NONE : 2 * s);
      edges.due("the AGENT at the END", x.end(0), 8 * 6);
    }
    edges.due("keep(3) over what was there", x.keep(3), 7);
    x.run(0, 1);
    edges.due("back(3)", x.back(3), 7);
    HeadNets full = StepEdges.with398();
    full.step(0);
    full.step(2);
    edges.due("keep(3) of a full NET", full.keep(3), 400);
    full.step(8);
    edges.due("back(3)", full.back(3), 400);
    edges.due("agent(399)", full.agent(399), 1);
    edges.due("wired(399, 0)", full.wired(399, 0), 16);
    edges.due("like(3)", full.like(3), 1);

    edges.says("UNKNOWN.");
    edges.unchanged("keep(-1)", object -> object.keep(-1), HeadNets.UNKNOWN);
    edges.unchanged("keep(4)", object -> object.keep(4), HeadNets.UNKNOWN);
    for (int far : Edges.FAR_OUT) {
      edges.unchanged("keep(" + far + ")", object -> object.keep(far), HeadNets.UNKNOWN);
    }
  }

  private void back() {
    edges.says("THE NET becomes what a SHELF has (counts, TRACE and THE DRAW stay): how many AGENTS.");
    HeadNets x = Check.with(PM + "rule P >< M : y = y; net P = M, e = P, P = M, P = M;");
    x.keep(0);
    edges.due("run(2, 2)", x.run(2, 2), 2);
    edges.due("back(0)", x.back(0), 7);
    edges.dueRow("count", x::count, 2, 1, 7, 1, 0, 3, 0, 0, 2, 7, 1, 0, 0);
    edges.dueRow("trace", x::trace, 1, 1, HeadNets.NONE);
    edges.due("back(0): the SHELF still has it", x.back(0), 7);
    x.run(0, 3);
    edges.due("and is not changed by STEPS", x.back(0), 7);
    edges.due("count(8)", x.count(8), 5);
    HeadNets drawn = Check.with(StepEdges.fifteenPairs());
    drawn.keep(2);
    drawn.run(3, 1);
    edges.due("the first drawn of 15", drawn.trace(0), 16 * 14 + 15);
    edges.due("back(2)", drawn.back(2), 30);
    drawn.run(3, 1);
    edges.due("the second one, of 15 again", drawn.trace(0), 16 * 3 + 15);
    HeadNets crowded = Check.with(PM + "rule P >< M : P = M, P = M; net P = M;");
    crowded.keep(1);
    crowded.run(0, 3000);
    edges.due("back(1)", crowded.back(1), 2);
    edges.due("count(9) stays", crowded.count(9), 400);
    edges.due("count(11) stays", crowded.count(11), 1);
    edges.due("AGENTS beyond are not there any more", crowded.agent(2), HeadNets.UNKNOWN);
    edges.due("agent(399)", crowded.agent(399), HeadNets.UNKNOWN);
    edges.due("PAIRS", crowded.count(5), 1);
    edges.due("step(0)", crowded.step(0), 1);
    edges.due("new ones have the least numbers", crowded.agent(3), 1);

    edges.says("UNKNOWN; STATE: it is empty.");
    edges.unchanged("back(-1)", object -> object.back(-1), HeadNets.UNKNOWN);
    edges.unchanged("back(4)", object -> object.back(4), HeadNets.UNKNOWN);
    edges.unchanged("back(0)", object -> object.back(0), HeadNets.STATE);
    edges.unchanged("back(2)", object -> object.back(2), HeadNets.STATE);
    edges.unchanged("back(3)", object -> object.back(3), HeadNets.STATE);
    for (int far : Edges.FAR_OUT) {
      edges.unchanged("back(" + far + ")", object -> object.back(far), HeadNets.UNKNOWN);
    }
    HeadNets nothing = new HeadNets();
    nothing.keep(0);
    edges.due("a SHELF with an empty NET is not empty", nothing.back(0), 0);
    edges.due("the next one is", nothing.back(1), HeadNets.STATE);
    nothing.read();
    edges.due("behind read() the first one is, too", nothing.back(0), HeadNets.STATE);
  }

  private void likeness() {
    edges.says("Whether THE NET and what a SHELF has are LIKE: 1, 0.");
    HeadNets x = Check.with(PM + "rule P >< M : P = M; net P = M, e = P;");
    x.keep(0);
    edges.due("what was just kept", x.like(0), 1);
    x.step(0);
    edges.due("what has come to the same", x.like(0), 1);
    HeadNets y = Check.with(PM + "rule P >< M; net P = M, e = P;");
    y.keep(3);
    y.step(0);
    edges.due("one PAIR fewer", y.like(3), 0);
    y.keep(0);
    edges.due("like(0)", y.like(0), 1);
    y.back(3);
    edges.due("like(3) behind back(3)", y.like(3), 1);
    edges.due("like(0)", y.like(0), 0);
    HeadNets empty = new HeadNets();
    empty.keep(2);
    edges.due("two empty ones", empty.like(2), 1);
    edges.unchanged("like(1)", object -> object.like(1), 0);
    fullNets();

    edges.says("UNKNOWN; STATE: it is empty.");
    edges.unchanged("like(-1)", object -> object.like(-1), HeadNets.UNKNOWN);
    edges.unchanged("like(4)", object -> object.like(4), HeadNets.UNKNOWN);
    edges.unchanged("like(0)", object -> object.like(0), HeadNets.STATE);
    edges.unchanged("like(3)", object -> object.like(3), HeadNets.STATE);
    for (int far : Edges.FAR_OUT) {
      edges.unchanged("like(" + far + ")", object -> object.like(far), HeadNets.UNKNOWN);
    }
    empty.read();
    edges.due("like(2) behind read()", empty.like(2), HeadNets.STATE);
  }

  /** A chain that grows from the END, by one agent a step, up to 400, all of them reached. */
  private static HeadNets chain() {
    return Check.with("kind Z a+; kind G a-(a+); kind S a+(a-); rule Z >< G(r) : r = S(y), Z = G(y); net Z = G(e);");
  }

  private void fullNets() {
    HeadNets x = chain();
    x.run(0, 397);
    x.keep(1);
    x.run(1, 1);
    x.keep(2);
    edges.due("400 that are reached", x.like(2), 1);
    edges.due("399 and 400", x.like(1), 0);
    x.back(1);
    edges.due("400 and 399", x.like(2), 0);
    x.run(2, 1);
    edges.due("400 again", x.like(2), 1);
  }

  private void reaching() {
    edges.says("How many AGENTS are reached from ENDS.");
    edges.due("of nothing", new HeadNets().reached(), 0);
    edges.due("without ENDS", Check.with(PM + "net P = M;").reached(), 0);
    edges.due("from ENDS at ENDS", Check.with(PM + "net a = b, P = M;").reached(), 0);
    edges.due("from one END", Check.with(PM + "net a = P, P = M;").reached(), 1);
    edges.due("from the last of seven ENDS", Check.with(PM + "net a = b, c = d, e = f, g = P, P = M;").reached(), 1);
    HeadNets x = chain();
    edges.due("two", x.reached(), 2);
    edges.due("steps to 400", x.run(0, 3000), 398);
    edges.due("all 400", x.reached(), 400);
    edges.due("asked again", x.reached(), 400);
    edges.due("a circle with an END at it", Check.with("kind A a+(a-, a-); net A(y, e) = y;").reached(), 1);
    edges.due("a circle with none", Check.with("kind A a+(a-); net e = f, y = A(A(y));").reached(), 0);
    edges.due("200 from one END", Check.with("kind A a+(a-); net " + longChain() + ";").reached(), 200);
    HeadNets split = Check.with("kind K a+(b-, b+); kind M a-; kind F b-; kind H b+; kind Z b-; rule K(x, y) >< M : x = F, y = H; "
        + "net K(e, Z) = M;");
    edges.due("three", split.reached(), 3);
    split.step(0);
    edges.due("Z is not reached any more", split.reached(), 1);
    edges.due("nor what it is wired to", split.count(2), 3);
  }

  private static String longChain() {
    StringBuilder net = new StringBuilder("e = n0");
    for (int i = 0; i < 20; i++) {
      net.append(", n").append(i).append(" = ").append(Texts.nested(10, "n" + (i + 1)));
    }
    return net.toString();
  }
}
