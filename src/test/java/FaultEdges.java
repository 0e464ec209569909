/** Boundary cases of the document's section 2: each fault, which of them counts, and what read() then leaves. */
final class FaultEdges {
  private static final String AB = "kind A a+(a-); kind B a-(a+); kind Z a+; kind E a-; ";
  private static final String SIX_LINKS = Texts.joined(6, "Z = E");

  private final Edges edges;

  private FaultEdges(Edges edges) {
    this.edges = edges;
  }

  static void ask(Edges edges) {
    FaultEdges of = new FaultEdges(edges);
    edges.section("Section 2");
    of.firstToken();
    of.least();
    of.noToken();
    of.cannotStand();
    of.kindsThatAreOrAreNot();
    of.tooMany();
    of.depth();
    of.brackets();
    of.bracketsWithOtherFaults();
    of.rules();
    of.namesAndEnds();
    of.wires();
    of.wiresOfRules();
    of.takesTheTape();
    of.leavesAllElse();
  }

  private void firstToken() {
    edges.says("FAULTS, at the first TOKEN that has one (its first byte; the end at the text's length),");
    edges.fault(1, "^$ $");
    edges.fault(2, "net; ^; ? Q");
    edges.fault(1, "net ^abcdefghijk = $;");
    edges.fault(2, "  ^abcdefgh");
    edges.fault(3, "net ^Abcdefgh = $;");
    edges.fault(2, "net^");
    edges.fault(2, "net \n ^");
    edges.fault(2, "kind A a+; rule^");
    edges.fault(7, "kind A a+; net A = A ^; $");
    edges.faultAt(2, 4000, Texts.padded("net", 4000));
  }

  private void least() {
    edges.says("of these the least:");
    // 2 before 3, 2 before 4, 3 before 4, 4 before 5, 6 before 7
    edges.fault(2, "^Q");
    edges.fault(2, "kind A ^Q");
    edges.fault(2, AB + "rule A(^Q) >< E;");
    edges.fault(2, "net; ^nets;");
    edges.fault(2, Texts.kinds(16) + "kind ^k a+;");
    edges.fault(2, "kind A a+(a+, a+, a+, a+, ^aa+);");
    edges.fault(2, "kind A a+(a+, a+, a+, a+, ^A+);");
    edges.fault(1, "kind A a+(a+, a+, a+, a+, ^aA+);");
    edges.fault(2, AB + "net x = " + Texts.nested(12, "^=") + ";");
    edges.fault(3, Texts.kinds(16) + "kind ^K0 a+;");
    edges.fault(3, Texts.kinds(16) + "kind ^K15 a+;");
    edges.fault(3, AB + "rule Z >< E : " + SIX_LINKS + ", ^Q = E;");
    edges.fault(3, AB + "net " + Texts.joined(100, "Z = E") + ", ^Q = E;");
    edges.fault(3, AB + "net x = " + Texts.nested(12, "^Q") + ";");
    edges.fault(4, AB + "rule Z >< E : " + SIX_LINKS + ", ^Z(x) = E;");
    edges.fault(4, AB + "net " + Texts.joined(100, "Z = E") + ", ^A = E;");
    edges.fault(4, AB + "net x = " + Texts.nested(12, "^A") + ";");
    edges.fault(6, AB + "rule A(x) >< B(y) : x = Z^;");
    edges.fault(6, AB + "rule Z >< E; rule E >< Z : Z = Z^;");
  }

  private void noToken() {
    edges.says("1 it is none.");
    edges.fault(1, "^?");
    edges.fault(1, "net x = y ^.");
    edges.fault(1, "net ^1 = y;");
    edges.fault(1, "net ^abcdefghi = y;");
    edges.fault(1, "^>");
    edges.faultAt(1, 3999, Texts.padded("net", 3999) + ">");
  }

  private void cannotStand() {
    edges.says("2 it cannot stand there.");
    edges.fault(2, "^;");
    edges.fault(2, "^x");
    edges.fault(2, "^X");
    edges.fault(2, "net x ^;");
    edges.fault(2, "net x = y ^)");
    edges.fault(2, "net x = y ^><");
    edges.fault(2, "net x = y ^+");
    edges.fault(2, "net x = y ^-");
    edges.fault(2, "net x = y ^:");
    edges.fault(2, "net x = y ^(");
  }

  private void kindsThatAreOrAreNot() {
    edges.says("3 a BIG NAME in kind that is a KIND already; elsewhere, that is none.");
    edges.fault(3, "kind A a+; kind ^A a+;");
    edges.fault(3, "kind A a+; kind ^A ?");
    edges.good(0, "kind A a+; kind Aa a+; kind AA a+;");
    edges.fault(3, "rule ^A >< B;");
    edges.fault(3, "kind A a+; rule A >< ^B;");
    edges.fault(3, "kind A a+; rule A >< A : ^B = x;");
    edges.fault(3, "net ^A = x;");
    edges.fault(3, "net x = ^A;");
    edges.fault(3, AB + "net A(^C) = x;");
    // a KIND that comes later is none yet, one of an earlier text is none any more
    edges.fault(3, "net ^A = x; kind A a+;");
    HeadNets x = Check.with("kind A a+; net A = x;");
    edges.due("read() of an AGENT of the text before", Check.read(x, "net A = x;"), -13);
    edges.due("read() of the same text again", Check.read(x, "kind A a+; net A = x;"), 1);
  }

  private void tooMany() {
    edges.says("4 more than there may be: of KINDS (at the BIG NAME),");
    edges.good(0, Texts.kinds(16));
    edges.fault(4, Texts.kinds(16) + "kind ^L ?");

    edges.says("PORTS (at its NAME),");
    edges.good(0, "kind A a+(b+, c+, d+, e+);");
    edges.fault(4, "kind A a+(b+, c+, d+, e+, ^f ?");

    edges.says("RULES (at rule),");
    edges.good(0, Texts.kinds(16) + Texts.rules(60) + "net;");
    edges.fault(4, Texts.kinds(16) + Texts.rules(60) + "net; ^rule ?");

    edges.says("AGENTS (at the BIG NAME),");
    edges.good(0, AB + "rule Z >< E : " + SIX_LINKS + ";");
    edges.fault(4, AB + "rule Z >< E : " + SIX_LINKS + ", ^E ?");
    edges.good(200, AB + "net " + Texts.joined(100, "Z = E") + ";");
    edges.fault(4, AB + "net " + Texts.joined(100, "Z = E") + ", ^E ?");
    // each rule counts anew, and so does the net
    edges.good(2, AB + "rule Z >< E : " + SIX_LINKS + "; rule Z >< Z : " + SIX_LINKS + "; net Z = E;");

    edges.says("unlike NAMES,");
    edges.good(0, "net " + Texts.joined(60, "n# = n#") + ";");
    edges.fault(4, "net " + Texts.joined(60, "n# = n#") + ", ^m ?");
    edges.fault(7, "net " + Texts.joined(60, "n# = n#") + ", n59 = n0^;");
    edges.fault(4, AB + "rule Z >< E : " + Texts.joined(60, "n# = n#") + ", ^m ?");

    edges.says("a second net (at net).");
    edges.fault(4, "net; ^net ?");
    edges.fault(4, "net; ^net;");
    edges.fault(4, "net x = y; kind A a+; ^net x = y;");
    HeadNets x = Check.with("net x = y;");
    edges.due("read() of a net after that of another text", Check.read(x, "net;"), 0);
  }

  private void depth() {
    edges.says("a term within 12 others (in brackets of AGENTS; at its first TOKEN),");
    edges.good(12, AB + "net x = " + Texts.nested(11, "Z") + ";");
    edges.good(11, AB + "net x = " + Texts.nested(11, "y") + ";");
    edges.fault(4, AB + "net x = " + Texts.nested(12, "^Z") + ";");
    edges.fault(4, AB + "net x = " + Texts.nested(12, "^y") + ";");
    edges.fault(4, AB + "net " + Texts.nested(12, "^x") + " = x;");
    edges.fault(4, AB + "net x = " + Texts.nested(12, "^A(y)") + ";");
    edges.good(0, AB + "rule Z >< E : x = " + Texts.nested(11, "y") + ", x = y;");
    edges.fault(4, AB + "rule Z >< E : x = " + Texts.nested(12, "^y") + ", x = y;");
    // the brackets that are closed again do not count
    edges.good(24, AB + "net x = " + Texts.nested(11, "Z") + ", y = " + Texts.nested(11, "Z") + ";");
    String row = Texts.nested(10, "Z");
    edges.good(45, "kind N a+(a-, a-, a-, a-); " + AB + "net x = N(" + row + "," + row + "," + row + "," + row + ");");
  }

  private void brackets() {
    edges.says("5 an AGENT (in a side, too) with more or fewer in brackets than its KIND has PORTS but the HEAD (at its BIG NAME;");
    String kinds = AB + "kind N a+(a-, a-, a-, a-); ";
    edges.good(1, kinds + "net Z = x;");
    edges.fault(5, kinds + "net ^Z(x) = y;");
    edges.fault(5, kinds + "net ^A = y;");
    edges.good(1, kinds + "net A(x) = y;");
    edges.fault(5, kinds + "net ^A(x, x) = y;");
    edges.fault(5, kinds + "net ^N(a, b, c) = y;");
    edges.good(1, kinds + "net N(a, b, c, d) = y;");
    edges.fault(5, kinds + "net ^N(a, b, c, d, e) = y;");
    edges.fault(5, kinds + "net ^N(" + "a,".repeat(999) + "a) = y;");
    edges.fault(5, kinds + "net x = ^N;");
    edges.fault(5, kinds + "rule ^Z(x) >< E;");
    edges.fault(5, kinds + "rule ^A >< E;");
    edges.fault(5, kinds + "rule Z >< ^E(x);");
    edges.fault(5, kinds + "rule Z >< ^B;");
    edges.fault(5, kinds + "rule ^N(a, b, c) >< E;");
    edges.fault(5, kinds + "rule ^N(a, b, c, d, e) >< E;");
    edges.fault(5, kinds + "rule E >< ^N(a, b, c, d, e);");
    edges.fault(5, kinds + "rule E >< Z : ^A = x;");
  }

  private void bracketsWithOtherFaults() {
    edges.says("it counts for that TOKEN, but is asked at its bracket's end, when no TOKEN up to there has another one).");
    edges.fault(5, AB + "net ^Z(x) $");
    edges.fault(5, AB + "net ^Z(x) Q");
    edges.fault(5, AB + "net x = ^A $");
    edges.fault(5, AB + "net x = ^A");
    edges.fault(5, AB + "net x = ^A Q");
    edges.fault(5, AB + "rule ^Z(x) $");
    edges.fault(5, AB + "rule ^A $");
    edges.fault(1, AB + "net Z(x ^$");
    edges.fault(1, AB + "net Z(x, y, ^$)");
    edges.fault(2, AB + "net Z(x, y ^;");
    edges.fault(2, AB + "net Z(x, y^");
    edges.fault(2, AB + "net Z(^) = x;");
    edges.fault(3, AB + "net Z(x, ^Q) = y;");
    edges.fault(4, AB + "net " + Texts.joined(99, "Z = E") + ", Z(E, ^E) = y;");
    edges.fault(4, AB + "net Z(" + Texts.joined(60, "n#") + ", ^m) = y;");
    edges.fault(5, AB + "net Z(^A, x) = y;");
    edges.fault(5, AB + "net A(x, ^A(x, y)) = y;");
    edges.fault(5, AB + "net A(A(x), ^Z(y), A) = y;");
    edges.fault(5, AB + "net ^A(A(x), A(y)) = y;");
    edges.fault(1, AB + "rule Z(x ^$");
    edges.fault(2, AB + "rule Z(x, y ^;");
    edges.fault(2, AB + "rule Z(x, ^E) >< E;");
    edges.fault(2, AB + "rule Z(x^");
  }

  private void rules() {
    edges.says("6 at the ; that ends a rule: two KINDS that have a RULE;");
    edges.fault(6, AB + "rule Z >< E; rule Z >< E ^;");
    edges.fault(6, AB + "rule Z >< E : x = x; net; rule E >< Z : y = y ^;");
    edges.fault(2, AB + "rule Z >< E; rule Z >< E^");
    edges.fault(2, AB + "rule Z >< E; rule Z >< E ^= x;");
    edges.good(0, AB + "rule Z >< E; rule Z >< Z; rule A(x) >< E : x = E;");

    edges.says("else a NAME that does not stand twice.");
    edges.fault(6, AB + "rule A(x) >< E ^;");
    edges.fault(6, AB + "rule Z >< E : x = y, y = z, z = z, x = y^;");
    edges.fault(6, AB + "rule Z >< E : x = x, x = E^;");
    edges.fault(6, AB + "rule A(x) >< B(y) : x = y, y = y^;");
    edges.fault(6, AB + "rule Z >< E : " + WireEdges.chain(60) + "^;");
    edges.good(0, AB + "rule Z >< E : " + WireEdges.circle(60) + ";");
  }

  private void namesAndEnds() {
    edges.says("7 at that ; or that of a net, if there is no FAULT 6: a NAME that stands three times or more (in a net);");
    edges.good(0, "net x = x;");
    edges.fault(7, "net x = x, x = y ^;");
    edges.fault(7, "net x = x, y = y, x = x ^;");
    edges.fault(7, "net " + "x = x, ".repeat(300) + "x = x^;");
    edges.fault(2, "net x = x, x = y^");

    edges.says("ENDS beyond 8;");
    edges.good(0, "net a = b, c = d, e = f, g = h;");
    edges.fault(7, "kind Z a+; net a = b, c = d, e = f, g = h, i = Z ^;");
    edges.fault(7, "kind N a+(a-, a-, a-, a-); net N(a, b, c, d) = e, f = g, h = i^;");
    edges.fault(2, "net a = b, c = d, e = f, g = h, i = j^");
  }

  private void wires() {
    edges.says("or a WIRE whose two PORTS do not FIT");
    edges.good(2, AB + "net Z = E;");
    edges.fault(7, AB + "net Z = Z ^;");
    edges.fault(7, AB + "net A(x) = y, A(y) = E, x = Z, Z = Z^;");
    edges.fault(7, AB + "net A(E) = y^;");
    edges.good(2, AB + "net A(Z) = y;");
    edges.fault(7, AB + "net Z = n0, n9 = Z, " + WireEdges.chain(10) + "^;");
    edges.fault(7, AB + "net " + Texts.joined(99, "Z = E") + ", Z = Z^;");
    edges.fault(7, AB + "rule Z >< E : Z = Z^;");
    edges.fault(7, "kind A a+; kind B b-; rule A >< B : A = B^;");
    edges.fault(2, AB + "net Z = Z^");
  }

  private void wiresOfRules() {
    edges.says("(in a rule with the PORTS that the AGENTS of its sides had turned to what lies outside: such a PORT counts with its "
        + "SIGN turned round, wherever it is wired to in links;");
    // outside of A's port a- lies an a+, which E, an a-, fits to
    edges.good(0, AB + "rule A(x) >< E : x = E;");
    edges.fault(7, AB + "rule A(x) >< E : x = Z ^;");
    edges.good(0, AB + "rule B(x) >< Z : x = Z;");
    edges.fault(7, AB + "rule B(x) >< Z : x = E^;");
    edges.good(0, AB + "rule A(x) >< E : E = A(x);");
    edges.fault(7, AB + "rule A(x) >< E : Z = B(x)^;");
    edges.good(0, AB + "rule A(x) >< E : n0 = x, n9 = E, " + WireEdges.chain(10) + ";");
    edges.fault(7, AB + "rule A(x) >< E : n0 = x, n9 = Z, " + WireEdges.chain(10) + "^;");
    edges.fault(7, "kind A a+(b-); kind E a-; rule A(x) >< E : x = E^;");
    String four = "kind N a+(a-, a-, a-, a-); kind E a-; kind Z a+; ";
    edges.good(0, four + "rule E >< N(x, y, z, w) : x = E, y = E, z = E, w = E;");
    edges.fault(7, four + "rule E >< N(x, y, z, w) : x = E, y = E, z = E, w = Z^;");
    edges.fault(7, four + "rule N(x, y, z, w) >< E : x = E, y = E, z = E, w = Z^;");

    edges.says("one that is wired to another such one likewise).");
    edges.good(0, AB + "rule A(x) >< B(y) : x = y;");
    edges.good(0, AB + "rule A(x) >< B(x);");
    edges.fault(7, AB + "rule A(x) >< A(y) : x = y^;");
    edges.fault(7, AB + "rule A(x) >< A(x)^;");
    edges.fault(7, AB + "rule B(x) >< B(x)^;");
    edges.fault(7, "kind A a+(b-); kind B a-(c+); rule A(x) >< B(x)^;");
    edges.good(0, "kind C a+(b-, b+); kind E a-; rule C(x, x) >< E;");
    edges.fault(7, "kind C a+(b-, b-); kind E a-; rule C(x, x) >< E^;");
    edges.fault(7, "kind N a+(b-, b+, b-, b-); kind E a-; rule E >< N(x, x, y, z) : y = z^;");
    edges.good(0, AB + "rule A(x) >< B(y) : x = n0, n9 = y, " + WireEdges.chain(10) + ";");
    edges.fault(7, AB + "rule A(x) >< A(y) : x = n0, n9 = y, " + WireEdges.chain(10) + "^;");
  }

  private void takesTheTape() {
    edges.says("read() takes THE TAPE, as a whole (it is empty then): its KINDS, RULES, and net (an empty one, if it tells none) come "
        + "in place of those there;");
    HeadNets x = Check.with(AB + "rule Z >< E; net Z = E, x = y, r = r;");
    edges.due("cut(1)", x.cut(1), HeadNets.OUTSIDE);
    edges.due("feed()", x.feed(0x20202020, 0x20202020, 0x20202020, 0x20202020, 0x20202020), 20);
    edges.due("read() of blanks", x.read(), 0);
    edges.dueRow("count", x::count, 0, 0, 0, 0, 0, 0, 0, 0, 0, 0, 0, 0, 0);
    edges.due("read()", Check.read(x, "kind M a+(b-); kind L a-(b+); rule M(x) >< L(x); net M(p) = L(q);"), 2);
    edges.due("kind(0, 0)", x.kind(0, 0), 2);
    edges.due("kind(2, 0)", x.kind(2, 0), HeadNets.UNKNOWN);
    edges.due("rule(0, 1)", x.rule(0, 1), 0);
    edges.due("read() without a net", Check.read(x, "kind M a+;"), 0);
    edges.due("KINDS", x.count(0), 1);
    edges.due("RULES", x.count(1), 0);
    edges.due("rule(0, 0)", x.rule(0, 0), HeadNets.NONE);
    edges.due("ENDS", x.count(3), 0);
    edges.due("agent(0)", x.agent(0), HeadNets.UNKNOWN);
    nothingOfEarlierTexts();
  }

  /** Texts after a rich one, each of which tells less; also with texts between that have a FAULT. */
  private void nothingOfEarlierTexts() {
    String rich = AB + "rule Z >< E : Z = E, Z = E, r = r; rule A(x) >< B(y) : x = y; net A(x) = B(y), Z = E, r = r, s = s, u = v;";
    String plain = "kind C a+; kind F a-; rule C >< F : C = F; net C = F;";
    for (String between : new String[] {plain, rich, rich + " ?", rich.replace("net", "net Z = Z,")}) {
      HeadNets x = Check.with(rich);
      Check.read(x, between);
      edges.due("read() of a plain text", Check.read(x, plain), 2);
      edges.dueRow("count of it", x::count, 2, 1, 2, 0, 0, 1, 0, 0, 0, 2, 0, 0, 0);
      edges.due("AGENTS in its RULE", x.rule(0, 1), 2);
      edges.due("step(0)", x.step(0), 1);
      edges.due("RINGS", x.count(4), 0);
      edges.due("AGENTS", x.count(2), 2);
      Check.read(x, between);
      edges.due("read() of KINDS alone", Check.read(x, AB), 0);
      edges.dueRow("count of them", x::count, 4, 0, 0, 0, 0, 0, 0, 0, 0, 0, 0, 0, 0);
      edges.due("rule(2, 3)", x.rule(2, 3), HeadNets.NONE);
      edges.due("rule(0, 1)", x.rule(0, 1), HeadNets.NONE);
      edges.dueRow("agent", x::agent, HeadNets.UNKNOWN, HeadNets.UNKNOWN, HeadNets.UNKNOWN, HeadNets.UNKNOWN);
      edges.due("end(0)", x.end(0), HeadNets.UNKNOWN);
      Check.read(x, between);
      edges.due("read() of the same RULES again", Check.read(x, rich), 4);
      edges.due("count(4)", x.count(4), 2);
    }
  }

  private void leavesAllElse() {
    edges.says("or it has a FAULT, and nothing is changed but THE TAPE and place().");
    String[] texts = {"kind K a+; net K = x; ?", "kind K a+; net K = x; x", "kind K a+; kind K", "net x = y; net;",
        "kind K a+; net K(x) = y;", "kind K a+; rule K >< K : x = y;", "kind K a+; net a = a, b = b, K = K;"};
    for (int i = 0; i < texts.length; i++) {
      String text = texts[i];
      HeadNets x = Edges.someObject();
      x.cut(0);
      String before = Edges.portrait(x);
      edges.due("read() of " + text, Check.read(x, text), -11 - i);
      edges.due("cut(1): the tape is empty", x.cut(1), HeadNets.OUTSIDE);
      edges.due("place() is another", x.place() == HeadNets.NONE ? 1 : 0, 0);
      edges.due("all else behind " + text, Edges.portrait(x), before);
      Check.feed(x, Edges.TAPE);
      edges.due("THE DRAW and the shelves", Edges.future(x), Edges.future(Edges.someObject()));
    }
  }
}
