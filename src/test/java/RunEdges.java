/** Boundary cases of promises 13 to 16: step, run, draw, trace. */
final class RunEdges {
  private static final String PM = "kind P a+; kind M a-; ";

  private final Edges edges;

  private RunEdges(Edges edges) {
    this.edges = edges;
  }

  static void ask(Edges edges) {
    RunEdges of = new RunEdges(edges);
    edges.promise(13);
    of.steps();
    edges.promise(14);
    of.runs();
    of.ends();
    of.roundsLeft();
    of.outside();
    edges.promise(15);
    of.draws();
    edges.promise(16);
    of.traces();
  }

  /** Kinds K0 to K14 and M; each K with an M becomes the next K with an M, and K14 becomes K0. */
  private static String around(String net) {
    StringBuilder text = new StringBuilder(Texts.kinds(15) + "kind M a-; ");
    for (int k = 0; k < 15; k++) {
      text.append("rule K").append(k).append(" >< M : K").append((k + 1) % 15).append(" = M; ");
    }
    return text + net;
  }

  private void steps() {
    edges.says("A STEP of the PAIR of an AGENT (either one): 1;");
    for (int n = 0; n < 2; n++) {
      HeadNets x = Check.with(PM + "rule P >< M; net P = M, M = P;");
      edges.due("step(" + n + ")", x.step(n), 1);
      edges.due("both went", x.agent(0) + x.agent(1), 2 * HeadNets.UNKNOWN);
      edges.due("step(" + (n + 2) + ")", x.step(n + 2), 1);
      edges.due("all went", x.count(2), 0);
    }
    HeadNets full = StepEdges.with398();
    full.step(0);
    full.step(2);
    edges.due("that of AGENT 399 is DEAD", full.step(399), HeadNets.STATE);
    edges.due("a STEP in a full NET", full.step(9), 1);

    edges.says("0: THE NET would be CROWDED.");
    HeadNets crowded = StepEdges.with398();
    edges.due("step(0) to 399", crowded.step(0), 1);
    edges.due("step(2) to 400", crowded.step(2), 1);
    edges.due("step(4) to 401", crowded.step(4), 0);
    edges.due("step(5), the other one", crowded.step(5), 0);
    edges.due("count(8)", crowded.count(8), 106);
    edges.due("trace(0) is that of G", crowded.trace(0), 1);
    edges.due("count(11) is of run()", crowded.count(11), 0);
    edges.due("count(2)", crowded.count(2), 400);

    edges.says("UNKNOWN; STATE: its HEAD is not in a PAIR that is ALIVE.");
    edges.due("step(400)", full.step(400), HeadNets.UNKNOWN);
    edges.due("step(0) of an empty NET", new HeadNets().step(0), HeadNets.UNKNOWN);
    edges.unchanged("step(-1)", object -> object.step(-1), HeadNets.UNKNOWN);
    edges.unchanged("step(7)", object -> object.step(7), HeadNets.UNKNOWN);
    edges.unchanged("step(2), a DEAD PAIR", object -> object.step(2), HeadNets.STATE);
    edges.unchanged("step(3), the other one", object -> object.step(3), HeadNets.STATE);
    edges.unchanged("step(6), at an END", object -> object.step(6), HeadNets.STATE);
    HeadNets other = Check.with("kind S a+(a-); kind M a-; rule S(x) >< M : x = M; net S(S(e)) = M, S(x) = x;");
    edges.due("a HEAD at another PORT", other.step(1), HeadNets.STATE);
    edges.due("a HEAD at a PORT of its own", other.step(3), HeadNets.STATE);
    for (int far : Edges.FAR_OUT) {
      edges.due("step(" + far + ")", full.step(far), HeadNets.UNKNOWN);
    }
  }

  private void runs() {
    edges.says("STEPS by an ORDER, until no PAIR is ALIVE, it is CROWDED, or n (0 .. 3000) are done: how many were done.");
    for (int order = 0; order < 4; order++) {
      int by = order;
      HeadNets endless = Check.with(around("net K0 = M;"));
      edges.due("run(" + by + ", 0)", endless.run(by, 0), 0);
      edges.due("count(8)", endless.count(8), 0);
      edges.due("run(" + by + ", 1)", endless.run(by, 1), 1);
      edges.due("run(" + by + ", 2999)", endless.run(by, 2999), 2999);
      edges.due("run(" + by + ", 3000)", endless.run(by, 3000), 3000);
      edges.due("count(8)", endless.count(8), 6000);
      HeadNets ending = Check.with(StepEdges.fifteenPairs());
      edges.due("run(" + by + ", 14) of 15", ending.run(by, 14), 14);
      edges.due("run(" + by + ", 3000)", ending.run(by, 3000), 1);
      edges.due("run(" + by + ", 3000) of none", ending.run(by, 3000), 0);
      HeadNets exact = Check.with(StepEdges.fifteenPairs());
      edges.due("run(" + by + ", 15) of 15", exact.run(by, 15), 15);
      HeadNets growing = Check.with(PM + "rule P >< M : P = M, P = M; net P = M;");
      edges.due("run(" + by + ", 3000) to 400 AGENTS", growing.run(by, 3000), 199);
      edges.due("CROWDED", growing.count(11), 1);
      edges.due("run(" + by + ", 3000) of a full NET", growing.run(by, 3000), 0);
      edges.due("run(" + by + ", 3000) of an empty one", new HeadNets().run(by, 3000), 0);
    }
  }

  /** One that would be too much ends a run, even if others would not. */
  private void ends() {
    HeadNets least = StepEdges.with398();
    edges.due("run(0, 3000): G at 0, G at 2, then G at 4 is too much", least.run(0, 3000), 2);
    edges.due("CROWDED", least.count(11), 1);
    edges.due("the PAIR that is too much", least.pair(0), 4);
    HeadNets greatest = StepEdges.with398();
    edges.due("run(1, 3000): a D, then the next one is too much", greatest.run(1, 3000), 1);
    HeadNets round = StepEdges.with398();
    edges.due("run(2, 3000): likewise as by order 0", round.run(2, 3000), 2);
    edges.due("rounds", round.count(10), 1);
    edges.due("run(2, 3000) again", round.run(2, 3000), 0);
    edges.due("a round had begun", round.count(10), 2);
  }

  private void roundsLeft() {
    edges.says("(ORDER 2: the round is left in its midst then; a next run() begins a new one.)");
    HeadNets x = Check.with(around("net K0 = M, K5 = M, K10 = M;"));
    edges.due("run(2, 2)", x.run(2, 2), 2);
    edges.due("count(10)", x.count(10), 1);
    edges.due("trace(0)", x.trace(0), 16 * 5 + 15);
    edges.due("run(2, 1)", x.run(2, 1), 1);
    edges.due("not the third of the round before", x.trace(0), 16 * 1 + 15);
    edges.due("count(10)", x.count(10), 2);
    edges.due("run(2, 3)", x.run(2, 3), 3);
    edges.due("count(10): just one round", x.count(10), 3);
    edges.dueRow("trace", x::trace, 16 * 10 + 15, 16 * 6 + 15, 16 * 2 + 15);
    edges.due("run(2, 4)", x.run(2, 4), 4);
    edges.due("count(10): one and the first of another", x.count(10), 5);
    edges.due("run(2, 0)", x.run(2, 0), 0);
    edges.due("count(10): none begins", x.count(10), 5);
    edges.due("run(2, 3000)", x.run(2, 3000), 3000);
    edges.due("count(10): 1000 more", x.count(10), 1005);
  }

  private void outside() {
    edges.says("OUTSIDE.");
    edges.unchanged("run(-1, 1)", x -> x.run(-1, 1), HeadNets.OUTSIDE);
    edges.unchanged("run(4, 1)", x -> x.run(4, 1), HeadNets.OUTSIDE);
    edges.unchanged("run(4, 0)", x -> x.run(4, 0), HeadNets.OUTSIDE);
    for (int order = 0; order < 4; order++) {
      int by = order;
      edges.unchanged("run(" + by + ", -1)", x -> x.run(by, -1), HeadNets.OUTSIDE);
      edges.unchanged("run(" + by + ", 3001)", x -> x.run(by, 3001), HeadNets.OUTSIDE);
      edges.unchanged("run(" + by + ", 0)", x -> x.run(by, 0), 0);
    }
    for (int far : Edges.FAR_OUT) {
      edges.unchanged("run(" + far + ", 1)", x -> x.run(far, 1), HeadNets.OUTSIDE);
      edges.unchanged("run(3, " + far + ")", x -> x.run(3, far), HeadNets.OUTSIDE);
    }
  }

  private void draws() {
    edges.says("THE DRAW becomes a number. Always 1.");
    for (int seed : new int[] {0, 1, -1, 2, Integer.MAX_VALUE, Integer.MIN_VALUE}) {
      edges.due("draw(" + seed + ")", new HeadNets().draw(seed), 1);
    }
    // reckoned apart from the class, from a number below 0 and from the least one: the places of 15 and then of 14
    drawnDue(-1, 13, 3);
    drawnDue(Integer.MIN_VALUE, 12, 8);
    drawnDue(Integer.MAX_VALUE, 4, 4);
    HeadNets again = Check.with(around("net K0 = M, K5 = M, K10 = M;"));
    again.draw(5);
    again.run(3, 20);
    int[] first = new int[20];
    for (int i = 0; i < 20; i++) {
      first[i] = again.trace(i);
    }
    Check.read(again, around("net K0 = M, K5 = M, K10 = M;"));
    again.draw(5);
    again.run(3, 20);
    edges.dueRow("trace from the same number on", again::trace, first);
  }

  private void drawnDue(int seed, int firstPlace, int secondPlace) {
    HeadNets x = Check.with(StepEdges.fifteenPairs());
    x.draw(seed);
    x.run(3, 2);
    edges.due("the first from " + seed, x.trace(1), 16 * firstPlace + 15);
    edges.due("the second from " + seed, x.trace(0), 16 * (secondPlace < firstPlace ? secondPlace : secondPlace + 1) + 15);
  }

  private void traces() {
    edges.says("The KINDS of the i-th latest STEP since read() (0 the latest, of the latest 50): 16 times that of the lesser AGENT and that of "
        + "the other one;");
    for (int steps : new int[] {1, 49, 50, 51, 99, 100, 101}) {
      HeadNets x = Check.with(around("net K0 = M;"));
      edges.due("run(0, " + steps + ")", x.run(0, steps), steps);
      for (int i = 0; i < Math.min(steps, 50); i++) {
        edges.due("trace(" + i + ") of " + steps, x.trace(i), 16 * ((steps - 1 - i) % 15) + 15);
      }
      edges.due("the one beyond, of " + steps, x.trace(Math.min(steps, 50)), HeadNets.NONE);
    }
    HeadNets lesser = Check.with("kind P a+; kind M a-; rule P >< M; net M = P, P = M;");
    lesser.run(0, 2);
    edges.due("P is the lesser one", lesser.trace(0), 1);
    edges.due("M is", lesser.trace(1), 16);
    HeadNets greatest = Check.with(Texts.kinds(15) + "kind M a-; rule K14 >< M; rule K0 >< M; net M = K14, M = K0;");
    greatest.run(0, 2);
    edges.due("the last KIND and the first", greatest.trace(0), 240);
    edges.due("the last two KINDS", greatest.trace(1), 254);

    edges.says("NONE.");
    edges.due("trace(0) without a STEP", new HeadNets().trace(0), HeadNets.NONE);
    edges.unchanged("trace(-1)", x -> x.trace(-1), HeadNets.NONE);
    edges.unchanged("trace(1)", x -> x.trace(1), HeadNets.NONE);
    HeadNets x = Check.with(around("net K0 = M;"));
    x.run(0, 3000);
    edges.due("trace(49)", x.trace(49), 16 * (2950 % 15) + 15);
    edges.due("trace(50)", x.trace(50), HeadNets.NONE);
    for (int far : Edges.FAR_OUT) {
      edges.due("trace(" + far + ")", x.trace(far), HeadNets.NONE);
    }
    x.read();
    edges.due("trace(0) behind read()", x.trace(0), HeadNets.NONE);
  }
}
