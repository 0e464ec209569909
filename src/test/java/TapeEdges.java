/** Boundary cases of promises 1 to 5: a new object, feed, cut, read, place. */
final class TapeEdges {
  private static final String PM = "kind P a+; kind M a-; ";

  private final Edges edges;

  private TapeEdges(Edges edges) {
    this.edges = edges;
  }

  static void ask(Edges edges) {
    TapeEdges of = new TapeEdges(edges);
    edges.section("What it is");
    of.lastCall();
    edges.promise(1);
    of.newObject();
    edges.promise(2);
    of.feeding();
    of.fullTape();
    edges.promise(3);
    of.cutting();
    edges.promise(4);
    of.answersOfRead();
    of.freshCounts();
    edges.promise(5);
    of.places();
  }

  private void lastCall() {
    edges.plain("Nets of agents that rewire themselves: agents have one head and other ports, all wires join two ports; "
        + "where two heads meet, a rule takes both agents out and puts a net in their place.");
    edges.says("An object is used for at most 512 calls after it has been made; what later calls answer is free.");
    // the calls that make the net come first, one that counts comes last, those between step it
    HeadNets x = new HeadNets();
    String text = "kind P a+;kind M a-;rule P><M:P=M,r=r;net P=M;";
    Check.feed(x, text);
    edges.due("read()", x.read(), 2);
    int before = text.length() / 20 + 3;
    for (int call = before + 1; call < 512; call++) {
      edges.due("run() as call " + call, x.run(call & 3, 3000), 3000);
    }
    edges.due("count(8) as call 512", x.count(8), 3000 * (511 - before));
    HeadNets y = new HeadNets();
    for (int call = 1; call < 512; call++) {
      edges.due("read() as call " + call, y.read(), 0);
    }
    edges.due("feed() as call 512", y.feed(0, 0, 0, 0, 0), 20);
  }

  private void newObject() {
    edges.says("No KINDS, no RULES, an empty NET;");
    HeadNets x = new HeadNets();
    edges.dueRow("count", x::count, 0, 0, 0, 0, 0, 0, 0, 0, 0, 0, 0, 0, 0);
    edges.due("kind(0, 0)", x.kind(0, 0), HeadNets.UNKNOWN);
    edges.due("rule(0, 0)", x.rule(0, 0), HeadNets.UNKNOWN);
    edges.due("agent(0)", x.agent(0), HeadNets.UNKNOWN);
    edges.due("wired(0, 0)", x.wired(0, 0), HeadNets.UNKNOWN);
    edges.due("end(0)", x.end(0), HeadNets.UNKNOWN);
    edges.due("pair(0)", x.pair(0), HeadNets.NONE);
    edges.due("step(0)", x.step(0), HeadNets.UNKNOWN);
    edges.due("trace(0)", x.trace(0), HeadNets.NONE);
    edges.due("reached()", x.reached(), 0);
    edges.due("print(0)", x.print(0), HeadNets.UNKNOWN);
    edges.dueRow("run by order", order -> x.run(order, 3000), 0, 0, 0, 0);

    edges.says("SHELVES are empty;");
    HeadNets y = new HeadNets();
    edges.dueRow("back", y::back, HeadNets.STATE, HeadNets.STATE, HeadNets.STATE, HeadNets.STATE);
    edges.dueRow("like", y::like, HeadNets.STATE, HeadNets.STATE, HeadNets.STATE, HeadNets.STATE);

    edges.says("THE TAPE, THE OUT are empty;");
    HeadNets z = new HeadNets();
    edges.due("cut(1)", z.cut(1), HeadNets.OUTSIDE);
    edges.due("cut(0)", z.cut(0), 0);
    edges.due("out(0)", z.out(0), HeadNets.NONE);
    edges.due("count(12)", z.count(12), 0);
    edges.due("place()", z.place(), HeadNets.NONE);
    edges.due("feed()", z.feed(0, 0, 0, 0, 0), 20);

    edges.says("THE DRAW is 1.");
    // 1 times the one number and the other are 7806831264735756412, of which >>> 33 is 908834774: 14 modulo 15
    HeadNets drawn = Check.with(StepEdges.fifteenPairs());
    edges.due("run(3, 1)", drawn.run(3, 1), 1);
    edges.due("trace(0)", drawn.trace(0), 16 * 14 + 15);
    HeadNets told = Check.with(StepEdges.fifteenPairs());
    told.draw(1);
    told.run(3, 9);
    drawn.run(3, 8);
    edges.dueRow("trace with and without draw(1)", i -> drawn.trace(i) - told.trace(i), 0, 0, 0, 0, 0, 0, 0, 0, 0);
  }

  private void feeding() {
    edges.says("Twenty bytes come behind THE TAPE,");
    edges.faultAt(1, 20, " ".repeat(20) + "$");
    edges.good(0, "net             abcd" + "efgh = abcdefgh;");
    edges.faultAt(1, 16, "net             abcd" + "efghi = x;");
    HeadNets behindCut = new HeadNets();
    behindCut.feed(0x6e657420, 0x24242424, 0x24242424, 0x24242424, 0x24242424);
    behindCut.cut(4);
    behindCut.feed(0x783d7820, 0x20202020, 0x3b202020, 0x20202020, 0x20202020);
    edges.due("read() of what came behind a cut", behindCut.read(), 0);
    edges.due("its RING", behindCut.count(4), 1);

    edges.says("each number's highest one first:");
    HeadNets x = new HeadNets();
    // net  x = y;  z in hexadecimal, a number's bytes each
    x.feed(0x6e657420, 0x78203d20, 0x793b2020, 0x20202020, 0x2020207a);
    edges.due("read()", x.read(), -12);
    edges.due("place(): the lowest byte of the fifth number", x.place(), 19);
    HeadNets high = new HeadNets();
    high.feed(0x20202080, 0x80202020, -1, Integer.MIN_VALUE, Integer.MAX_VALUE);
    edges.due("read() of bytes from 128 on", high.read(), -11);
    edges.due("place()", high.place(), 3);
    HeadNets negative = new HeadNets();
    negative.feed(0x20202020, 0x20202020, 0x20202020, 0x20202020, 0xff202020);
    edges.due("read()", negative.read(), -11);
    edges.due("place()", negative.place(), 16);

    edges.says("how many it has.");
    HeadNets y = new HeadNets();
    edges.due("the first feed()", y.feed(0, 0, 0, 0, 0), 20);
    edges.due("the second one", y.feed(0, 0, 0, 0, 0), 40);
    edges.due("cut(1)", y.cut(1), 39);
    edges.due("feed() behind cut(1)", y.feed(0, 0, 0, 0, 0), 21);
    edges.due("cut(0)", y.cut(0), 21);
    edges.due("feed() behind cut(0)", y.feed(0, 0, 0, 0, 0), 20);
    y.read();
    edges.due("feed() behind read()", y.feed(0, 0, 0, 0, 0), 20);
  }

  private void fullTape() {
    edges.says("FULL.");
    HeadNets x = new HeadNets();
    edges.dueRow("feed", i -> x.feed(0x20202020, 0x20202020, 0x20202020, 0x20202020, 0x20202020), upTo4000());
    edges.due("feed() to 4020", x.feed(-1, -1, -1, -1, -1), HeadNets.FULL);
    edges.due("cut(3981)", x.cut(3981), 19);
    edges.due("feed() to 4001", x.feed(-1, -1, -1, -1, -1), HeadNets.FULL);
    edges.due("cut(3981): FULL changes nothing", x.cut(3981), 0);
    edges.due("cut(3980)", x.cut(3980), 1);
    edges.due("feed() to 4000", x.feed(0x20202020, 0x20202020, 0x20202020, 0x20202020, 0x2020206e), 4000);
    edges.due("feed() once more", x.feed(0x65743b20, 0, 0, 0, 0), HeadNets.FULL);
    edges.due("read(): the last byte is a NAME", x.read(), -12);
    edges.due("place()", x.place(), 3999);
    edges.due("feed() behind read()", x.feed(0, 0, 0, 0, 0), 20);
  }

  private static int[] upTo4000() {
    int[] lengths = new int[200];
    for (int i = 0; i < 200; i++) {
      lengths[i] = 20 * (i + 1);
    }
    return lengths;
  }

  private void cutting() {
    edges.says("THE TAPE keeps its first n bytes: how many went.");
    HeadNets x = new HeadNets();
    edges.due("cut(0) of nothing", x.cut(0), 0);
    x.feed(0x6e657420, 0x613d623b, 0x24242424, 0, 0);
    edges.due("cut(20) keeps all", x.cut(20), 0);
    edges.due("cut(9)", x.cut(9), 11);
    edges.due("cut(8)", x.cut(8), 1);
    edges.due("cut(8) again", x.cut(8), 0);
    edges.due("read() of net a=b;", x.read(), 0);
    edges.due("its ENDS", x.count(3), 2);
    HeadNets none = new HeadNets();
    none.feed(-1, -1, -1, -1, -1);
    edges.due("cut(0)", none.cut(0), 20);
    edges.due("read() of nothing", none.read(), 0);
    // what went is not seen again: neither the rest of a NAME nor that of ><
    HeadNets name = new HeadNets();
    name.feed(0x6e657420, 0x61626364, 0x65666768, 0x69202020, 0);
    edges.due("cut(12) within nine letters", name.cut(12), 8);
    edges.due("read(): the end comes behind eight", name.read(), -12);
    edges.due("place()", name.place(), 12);
    HeadNets sign = new HeadNets();
    sign.feed(0x20203e3c, 0, 0, 0, 0);
    edges.due("cut(3) within ><", sign.cut(3), 17);
    edges.due("read()", sign.read(), -11);
    edges.due("place()", sign.place(), 2);

    edges.says("OUTSIDE.");
    HeadNets y = new HeadNets();
    edges.due("cut(1) of nothing", y.cut(1), HeadNets.OUTSIDE);
    edges.due("cut(-1) of nothing", y.cut(-1), HeadNets.OUTSIDE);
    for (int n : new int[] {-1, 10, 4000, 4001, Integer.MIN_VALUE, Integer.MAX_VALUE}) {
      // someObject() has nine bytes there
      edges.unchanged("cut(" + n + ")", object -> object.cut(n), HeadNets.OUTSIDE);
    }
    edges.unchanged("cut(9)", object -> object.cut(9), 0);
  }

  private void answersOfRead() {
    edges.says("Section 2: how many AGENTS THE NET has;");
    edges.good(0, "");
    edges.good(0, " ".repeat(4000));
    edges.good(0, "net;");
    edges.good(0, PM);
    edges.good(1, PM + "net P = e;");
    edges.good(200, PM + "net " + Texts.joined(100, "P=M") + ";");

    edges.says("-10 less the number of the FAULT.");
    edges.due("FAULT 1", Check.read(new HeadNets(), "$"), -11);
    edges.due("FAULT 2", Check.read(new HeadNets(), "net"), -12);
    edges.due("FAULT 3", Check.read(new HeadNets(), "net A = x;"), -13);
    edges.due("FAULT 4", Check.read(new HeadNets(), "net;net;"), -14);
    edges.due("FAULT 5", Check.read(new HeadNets(), PM + "net P(x) = y;"), -15);
    edges.due("FAULT 6", Check.read(new HeadNets(), PM + "rule P >< M : x = y;"), -16);
    edges.due("FAULT 7", Check.read(new HeadNets(), PM + "net P = P;"), -17);
  }

  private void freshCounts() {
    edges.says("Counts of STEPS begin at 0;");
    HeadNets x = Check.with(PM + "rule P >< M : P = M, P = M; net P = M;");
    x.run(2, 5);
    edges.due("count(8)", x.count(8), 5);
    edges.due("count(9)", x.count(9), 12);
    edges.due("count(10): rounds of 1, 2 and 2 of 4", x.count(10), 3);
    edges.due("read() with a fault", Check.read(x, "$"), -11);
    edges.due("count(8) stays then", x.count(8), 5);
    edges.due("count(9) stays then", x.count(9), 12);
    edges.due("count(10) stays then", x.count(10), 3);
    edges.due("trace(4) stays then", x.trace(4), 1);
    edges.due("read()", Check.read(x, PM + "rule P >< M; net P = e;"), 1);
    edges.due("count(8)", x.count(8), 0);
    edges.due("count(9) begins with the net that was read", x.count(9), 1);
    edges.due("count(10)", x.count(10), 0);
    edges.due("trace(0)", x.trace(0), HeadNets.NONE);
    edges.due("read() of nothing", x.read(), 0);
    edges.due("count(9)", x.count(9), 0);

    edges.says("SHELVES are empty.");
    HeadNets y = Check.with(PM + "net P = M;");
    for (int s = 0; s < 4; s++) {
      y.keep(s);
    }
    Check.read(y, "net");
    edges.dueRow("like behind a fault", y::like, 1, 1, 1, 1);
    edges.dueRow("back behind a fault", y::back, 2, 2, 2, 2);
    y.read();
    edges.dueRow("like behind read()", y::like, HeadNets.STATE, HeadNets.STATE, HeadNets.STATE, HeadNets.STATE);
    edges.dueRow("back behind read()", y::back, HeadNets.STATE, HeadNets.STATE, HeadNets.STATE, HeadNets.STATE);
  }

  private void places() {
    edges.says("The byte of the FAULT of the latest read();");
    HeadNets x = new HeadNets();
    Check.read(x, "$");
    edges.due("the first byte", x.place(), 0);
    Check.read(x, Texts.padded("net", 3999) + "$");
    edges.due("the last byte that there may be", x.place(), 3999);
    Check.read(x, Texts.padded("net", 4000));
    edges.due("the end of a full tape", x.place(), 4000);
    Check.read(x, "net");
    edges.due("that of the latest one", x.place(), 3);
    x.feed(0, 0, 0, 0, 0);
    edges.due("as long as no other read() comes", x.place(), 3);

    edges.says("NONE.");
    edges.due("place() of a new object", new HeadNets().place(), HeadNets.NONE);
    HeadNets y = new HeadNets();
    Check.read(y, "net");
    edges.due("read() without a fault", y.read(), 0);
    edges.due("place() then", y.place(), HeadNets.NONE);
  }
}
