/** Boundary cases of promises 6 to 12: count, kind, rule, agent, wired, end, pair. */
final class LookEdges {
  private static final String PM = "kind P a+; kind M a-; ";

  private final Edges edges;

  private LookEdges(Edges edges) {
    this.edges = edges;
  }

  static void ask(Edges edges) {
    LookEdges of = new LookEdges(edges);
    edges.promise(6);
    of.emptyAndFullCounts();
    of.countsSinceRead();
    of.latestRun();
    of.otherCounts();
    edges.promise(7);
    of.kinds();
    edges.promise(8);
    of.rules();
    edges.promise(9);
    of.agents();
    edges.promise(10);
    of.wires();
    edges.promise(11);
    of.ends();
    edges.promise(12);
    of.pairs();
  }

  private void emptyAndFullCounts() {
    edges.says("How many: 0 KINDS, 1 RULES, 2 AGENTS, 3 ENDS, 4 RINGS, 5 PAIRS that are ALIVE, 6 DEAD ones, 7 WAITING CIRCLES,");
    edges.dueRow("count of nothing", Check.with("")::count, 0, 0, 0, 0, 0, 0, 0, 0);
    HeadNets full = Check.with(Texts.kinds(16) + Texts.rules(60));
    edges.dueRow("count of 16 KINDS, 60 RULES", full::count, 16, 60, 0, 0, 0, 0, 0, 0);
    HeadNets alive = Check.with(PM + "rule P >< M; net " + Texts.joined(100, "P = M") + ";");
    edges.dueRow("count of 100 PAIRS", alive::count, 2, 1, 200, 0, 0, 100, 0, 0);
    HeadNets dead = Check.with(PM + "net " + Texts.joined(100, "P = M") + ";");
    edges.dueRow("count of 100 DEAD ones", dead::count, 2, 0, 200, 0, 0, 0, 100, 0);
    HeadNets ends = Check.with("net a = b, c = d, e = f, g = h, " + Texts.joined(52, "n# = n#") + ";");
    edges.dueRow("count of 8 ENDS, 52 RINGS", ends::count, 0, 0, 0, 8, 52, 0, 0, 0);
    HeadNets circles = Check.with("kind A a+(a-); net " + Texts.joined(60, "n# = A(n#)") + ";");
    edges.dueRow("count of 60 CIRCLES", circles::count, 1, 0, 60, 0, 0, 0, 0, 60);
    HeadNets most = StepEdges.with398();
    most.step(0);
    most.step(2);
    edges.due("count(2) of a full NET", most.count(2), 400);
    most.step(8);
    edges.due("count(2) behind a STEP to nothing", most.count(2), 398);
  }

  private void countsSinceRead() {
    edges.says("8 STEPS since read(), 9 the most AGENTS at any time since then, 10 rounds begun since then,");
    HeadNets x = Check.with(PM + "kind D a+; rule D >< M : P = M, P = M; rule P >< M; net D = M;");
    edges.due("count(9)", x.count(9), 2);
    edges.due("step(0)", x.step(0), 1);
    edges.due("count(8): step() counts", x.count(8), 1);
    edges.due("count(9)", x.count(9), 4);
    edges.due("count(10): step() is of no round", x.count(10), 0);
    edges.due("run(0, 1)", x.run(0, 1), 1);
    edges.due("count(8): run() counts", x.count(8), 2);
    edges.due("count(10): order 0 has none", x.count(10), 0);
    edges.due("run(2, 0)", x.run(2, 0), 0);
    edges.due("count(10): n was 0", x.count(10), 0);
    edges.due("run(2, 9)", x.run(2, 9), 1);
    edges.due("count(10)", x.count(10), 1);
    edges.due("run(2, 9)", x.run(2, 9), 0);
    edges.due("count(10): no PAIR was ALIVE", x.count(10), 1);
    edges.due("count(2): all is gone", x.count(2), 0);
    edges.due("count(9) stays", x.count(9), 4);
    HeadNets full = StepEdges.with398();
    full.step(0);
    full.step(2);
    full.step(8);
    edges.due("count(9) of a NET that was full", full.count(9), 400);
    HeadNets shelf = Check.with(PM + "rule P >< M; net P = M, P = M;");
    shelf.keep(0);
    shelf.run(0, 2);
    shelf.back(0);
    shelf.run(2, 2);
    edges.due("count(8) over back()", shelf.count(8), 4);
    edges.due("count(9) over back()", shelf.count(9), 4);
    edges.due("count(10) over back()", shelf.count(10), 1);
  }

  private void latestRun() {
    edges.says("11 whether the latest run() ended CROWDED (1, 0),");
    edges.due("without a run()", new HeadNets().count(11), 0);
    for (int order = 0; order < 4; order++) {
      HeadNets x = Check.with(PM + "rule P >< M : P = M, P = M; net " + Texts.joined(100, "P = M") + ";");
      edges.due("run(" + order + ", 100)", x.run(order, 100), 100);
      edges.due("400 AGENTS, but n are done", x.count(11), 0);
      edges.due("run(" + order + ", 1)", x.run(order, 1), 0);
      edges.due("CROWDED", x.count(11), 1);
      edges.due("step(0)", x.step(0), 0);
      edges.due("run(" + order + ", 3001)", x.run(order, 3001), HeadNets.OUTSIDE);
      edges.due("a refused one is none", x.count(11), 1);
      edges.due("run(" + order + ", 0)", x.run(order, 0), 0);
      edges.due("none was to be done", x.count(11), 0);
      edges.due("step(0)", x.step(0), 0);
      edges.due("step() is no run()", x.count(11), 0);
      HeadNets ending = Check.with("kind Q a+; kind P a+; kind M a-; rule P >< M; net Q = M, P = M;");
      edges.due("run(" + order + ", 9) to its end", ending.run(order, 9), 1);
      edges.due("no PAIR was ALIVE any more", ending.count(11), 0);
      edges.due("run(" + order + ", 9) with a DEAD one alone", ending.run(order, 9), 0);
      edges.due("none was ALIVE", ending.count(11), 0);
    }
    HeadNets over = Check.with(PM + "rule P >< M : P = M, P = M; net P = M;");
    edges.due("run(0, 3000)", over.run(0, 3000), 199);
    edges.due("read()", over.read(), 0);
    edges.due("the latest run() is still that one", over.count(11), 1);
    edges.due("run(0, 3000) of nothing", over.run(0, 3000), 0);
    edges.due("now it is this one", over.count(11), 0);
  }

  private void otherCounts() {
    edges.says("12 bytes of THE OUT.");
    HeadNets x = Check.with("kind Abcdefgh a+; net e = Abcdefgh;");
    edges.due("before print()", x.count(12), 0);
    x.print(0);
    edges.due("count(12)", x.count(12), 8);
    x.print(1);
    edges.due("behind a refused one", x.count(12), 8);
    x.read();
    edges.due("behind read()", x.count(12), 8);

    edges.says("OUTSIDE.");
    edges.unchanged("count(-1)", object -> object.count(-1), HeadNets.OUTSIDE);
    edges.unchanged("count(13)", object -> object.count(13), HeadNets.OUTSIDE);
    for (int what : Edges.FAR_OUT) {
      edges.due("count(" + what + ")", x.count(what), HeadNets.OUTSIDE);
    }
  }

  private void kinds() {
    edges.says("Of a KIND: 0 its PORTS (with the HEAD), 1 AGENTS of it in THE NET,");
    HeadNets x = Check.with("kind P a+; kind N a+(b-, c+, d-, e+); kind M a-; kind Q a+; rule Q >< M; net "
        + Texts.joined(99, "P = M") + ", Q = M;");
    edges.due("the HEAD alone", x.kind(0, 0), 1);
    edges.due("four more", x.kind(1, 0), 5);
    edges.due("99 AGENTS", x.kind(0, 1), 99);
    edges.due("none", x.kind(1, 1), 0);
    edges.due("100", x.kind(2, 1), 100);
    x.run(0, 1);
    edges.due("one fewer", x.kind(2, 1), 99);
    edges.due("none any more", x.kind(3, 1), 0);
    HeadNets most = StepEdges.with398();
    edges.due("K", most.kind(3, 1), 1);
    edges.due("D", most.kind(2, 1), 194);
    edges.due("S", most.kind(5, 1), 0);

    edges.says("2 to 6 the SORT of PORT 0 to 4 (0 a, 1 b, ..; below 0, less 1, for the SIGN -; -100: no such PORT).");
    HeadNets y = Check.with("kind A a+; kind B a-; kind C z+(z-, b+, b-, y+); kind D m-(a+);");
    edges.dueRow("kind(0, ..)", what -> y.kind(0, what), 1, 0, 0, -100, -100, -100, -100);
    edges.dueRow("kind(1, ..)", what -> y.kind(1, what), 1, 0, -1, -100, -100, -100, -100);
    edges.dueRow("kind(2, ..)", what -> y.kind(2, what), 5, 0, 25, -26, 1, -2, 24);
    edges.dueRow("kind(3, ..)", what -> y.kind(3, what), 2, 0, -13, 0, -100, -100, -100);
    // the PORTS of an earlier text are not there any more
    Check.read(y, "kind A b+(c-); kind B b+; kind C b+;");
    edges.dueRow("kind(2, ..) of the next text", what -> y.kind(2, what), 1, 0, 1, -100, -100, -100, -100);

    edges.says("UNKNOWN, OUTSIDE.");
    edges.unchanged("kind(-1, 0)", object -> object.kind(-1, 0), HeadNets.UNKNOWN);
    edges.unchanged("kind(4, 0)", object -> object.kind(4, 0), HeadNets.UNKNOWN);
    edges.unchanged("kind(4, -1)", object -> object.kind(4, -1), HeadNets.UNKNOWN);
    edges.unchanged("kind(0, -1)", object -> object.kind(0, -1), HeadNets.OUTSIDE);
    edges.unchanged("kind(0, 7)", object -> object.kind(0, 7), HeadNets.OUTSIDE);
    HeadNets all = Check.with(Texts.kinds(16));
    edges.due("kind(15, 0) of 16", all.kind(15, 0), 1);
    edges.due("kind(16, 0) of 16", all.kind(16, 0), HeadNets.UNKNOWN);
    for (int far : Edges.FAR_OUT) {
      edges.due("kind(" + far + ", 0)", all.kind(far, 0), HeadNets.UNKNOWN);
      edges.due("kind(0, " + far + ")", all.kind(0, far), HeadNets.OUTSIDE);
      edges.due("kind(" + far + ", " + far + ")", all.kind(far, far), HeadNets.UNKNOWN);
    }
  }

  private void rules() {
    edges.says("The number of AGENTS in the links of the RULE of two KINDS;");
    HeadNets x = Check.with(Texts.kinds(15) + "kind M a-; rule K0 >< M; rule M >< K14 : " + Texts.joined(6, "K1 = M")
        + "; rule K3 >< K3 : K1 = M; rule M >< M : x = x;");
    edges.due("none in the links", x.rule(0, 15), 0);
    edges.due("twelve", x.rule(14, 15), 12);
    edges.due("twelve, the other way round", x.rule(15, 14), 12);
    edges.due("of one KIND", x.rule(3, 3), 2);
    edges.due("of the last KIND", x.rule(15, 15), 0);

    edges.says("NONE: there is none.");
    edges.due("rule(0, 0)", x.rule(0, 0), HeadNets.NONE);
    edges.due("rule(14, 14)", x.rule(14, 14), HeadNets.NONE);
    edges.due("rule(1, 15)", x.rule(1, 15), HeadNets.NONE);
    HeadNets next = Check.with(PM + "rule P >< M : P = M;");
    Check.read(next, PM);
    edges.due("rule(0, 1) of the next text", next.rule(0, 1), HeadNets.NONE);

    edges.says("UNKNOWN.");
    edges.due("rule(0, 16)", x.rule(0, 16), HeadNets.UNKNOWN);
    edges.due("rule(16, 0)", x.rule(16, 0), HeadNets.UNKNOWN);
    edges.unchanged("rule(4, 0)", object -> object.rule(4, 0), HeadNets.UNKNOWN);
    edges.unchanged("rule(0, 4)", object -> object.rule(0, 4), HeadNets.UNKNOWN);
    edges.unchanged("rule(-1, 0)", object -> object.rule(-1, 0), HeadNets.UNKNOWN);
    edges.unchanged("rule(0, -1)", object -> object.rule(0, -1), HeadNets.UNKNOWN);
    for (int far : Edges.FAR_OUT) {
      edges.due("rule(" + far + ", 0)", x.rule(far, 0), HeadNets.UNKNOWN);
      edges.due("rule(0, " + far + ")", x.rule(0, far), HeadNets.UNKNOWN);
    }
  }

  private void agents() {
    edges.says("The KIND of an AGENT.");
    HeadNets x = StepEdges.with398();
    x.step(0);
    x.step(2);
    edges.due("agent(0)", x.agent(0), 5);
    edges.due("agent(399)", x.agent(399), 1);
    HeadNets last = Check.with(Texts.kinds(16) + "net K15 = e;");
    edges.due("the last KIND", last.agent(0), 15);

    edges.says("UNKNOWN.");
    edges.due("agent(400)", x.agent(400), HeadNets.UNKNOWN);
    x.step(8);
    edges.due("one that went", x.agent(8), HeadNets.UNKNOWN);
    edges.due("the other one", x.agent(9), HeadNets.UNKNOWN);
    edges.due("the next one", x.agent(10), 2);
    edges.unchanged("agent(-1)", object -> object.agent(-1), HeadNets.UNKNOWN);
    edges.unchanged("agent(7)", object -> object.agent(7), HeadNets.UNKNOWN);
    for (int far : Edges.FAR_OUT) {
      edges.due("agent(" + far + ")", x.agent(far), HeadNets.UNKNOWN);
    }
  }

  private void wires() {
    edges.says("What PORT p of an AGENT is wired to: 8 times an AGENT and its PORT; of an END: -2 less its number.");
    HeadNets x = fullWithPorts(false);
    // the three G of the last STEP are 0, 1 and 397, then come E and N
    edges.due("PORT 4 of AGENT 399", x.wired(2, 0), 8 * 399 + 4);
    edges.due("what that is wired to", x.wired(399, 4), 8 * 2);
    edges.due("what PORT 3 is wired to", x.wired(399, 3), 8 * 397);
    edges.due("HEAD of AGENT 0", x.wired(399, 1), 0);
    edges.due("HEAD of AGENT 399", x.wired(398, 0), 8 * 399);
    HeadNets ends = Check.with("kind A a+(a-, a-, a-, a-); kind M a-; net A(a, b, c, d) = e, f = g, h = M;");
    edges.due("END 0 at PORT 1", ends.wired(0, 1), -2);
    edges.due("END 4 at the HEAD", ends.wired(0, 0), -6);
    edges.due("END 7", ends.wired(1, 0), -9);

    edges.says("UNKNOWN, OUTSIDE.");
    edges.due("wired(399, 5)", x.wired(399, 5), HeadNets.OUTSIDE);
    edges.due("wired(397, 1)", x.wired(397, 1), HeadNets.OUTSIDE);
    edges.due("wired(400, 0)", x.wired(400, 0), HeadNets.UNKNOWN);
    edges.due("wired(400, 5)", x.wired(400, 5), HeadNets.UNKNOWN);
    edges.unchanged("wired(7, 0)", object -> object.wired(7, 0), HeadNets.UNKNOWN);
    edges.unchanged("wired(-1, -1)", object -> object.wired(-1, -1), HeadNets.UNKNOWN);
    edges.unchanged("wired(0, -1)", object -> object.wired(0, -1), HeadNets.OUTSIDE);
    edges.unchanged("wired(0, 1)", object -> object.wired(0, 1), HeadNets.OUTSIDE);
    for (int far : Edges.FAR_OUT) {
      edges.due("wired(" + far + ", 0)", x.wired(far, 0), HeadNets.UNKNOWN);
      edges.due("wired(0, " + far + ")", x.wired(0, far), HeadNets.OUTSIDE);
    }

    edges.says("(What is told may be as a refusal is.)");
    edges.due("-2 to -9 are no refusals", ends.wired(0, 1), -2);
  }

  /** A full net whose agent 399 has five ports: END 0, or the HEAD of AGENT 2, is wired to its last one. */
  private static HeadNets fullWithPorts(boolean atEnd) {
    HeadNets x = Check.with("kind G a+; kind H a-(a-); kind D a+; kind E a-; kind N a+(a-, a-, a-, a-); "
        + "rule G >< H(d) : G = a, G = b, G = c, E = N(a, b, c, d); rule D >< E : D = E, D = E; "
        + "net G = H(e), " + (atEnd ? "f" : "e") + " = G, " + Texts.joined(95, "D = E") + ";");
    x.run(1, 102);
    x.step(0);
    return x;
  }

  private void ends() {
    edges.says("What an END is wired to, likewise.");
    HeadNets x = Check.with("kind A a+(a-, a-, a-, a-); kind M a-; net A(a, b, c, d) = e, f = g, h = M;");
    edges.dueRow("end", x::end, 1, 2, 3, 4, 0, -8, -7, 8);
    edges.due("PORT 4 of AGENT 399", fullWithPorts(true).end(0), 8 * 399 + 4);

    edges.says("UNKNOWN.");
    edges.due("end(8) of 8", x.end(8), HeadNets.UNKNOWN);
    edges.due("end(0) of none", Check.with("net;").end(0), HeadNets.UNKNOWN);
    edges.unchanged("end(-1)", object -> object.end(-1), HeadNets.UNKNOWN);
    edges.unchanged("end(1)", object -> object.end(1), HeadNets.UNKNOWN);
    for (int far : Edges.FAR_OUT) {
      edges.due("end(" + far + ")", x.end(far), HeadNets.UNKNOWN);
    }

    edges.says("(What is told may be as a refusal is.)");
    edges.due("-9 is no refusal", Check.with("net a = b, c = d, e = f, g = h;").end(6), -9);
  }

  private void pairs() {
    edges.says("The i-th PAIR that is ALIVE, by numbers: its lesser AGENT;");
    HeadNets x = Check.with("kind P a+; kind M a-; kind Q a+; rule P >< M; net Q = M, P = a, P = b, Q = M, P = M, b = M, a = M;");
    // Q M, P, P, Q M, P M, M, M are 0 to 9
    edges.dueRow("pair", x::pair, 2, 3, 6, HeadNets.NONE);
    HeadNets all = Check.with(PM + "rule P >< M; net " + Texts.joined(100, "P = M") + ";");
    edges.due("pair(99) of 100", all.pair(99), 198);
    HeadNets full = fullWithPorts(true);
    edges.due("the last one of a full NET", full.pair(full.count(5) - 1), 395);

    edges.says("NONE.");
    edges.due("pair(100) of 100", all.pair(100), HeadNets.NONE);
    edges.due("pair(0) of none", Check.with(PM + "net P = M;").pair(0), HeadNets.NONE);
    edges.unchanged("pair(-1)", object -> object.pair(-1), HeadNets.NONE);
    edges.unchanged("pair(2)", object -> object.pair(2), HeadNets.NONE);
    for (int far : Edges.FAR_OUT) {
      edges.due("pair(" + far + ")", all.pair(far), HeadNets.NONE);
    }
  }
}
