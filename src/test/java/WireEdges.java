/** Boundary cases of the document's section 1: kinds, ports, wires, ends, rings. */
final class WireEdges {
  private final Edges edges;

  private WireEdges(Edges edges) {
    this.edges = edges;
  }

  static void ask(Edges edges) {
    WireEdges of = new WireEdges(edges);
    edges.section("Terms");
    of.words();
    edges.section("Section 1");
    of.kinds();
    of.ports();
    of.wires();
    of.ends();
    of.rings();
    of.fitting();
  }

  private void words() {
    edges.plain("Agents, rules and nets are told in a text; whichever pair goes first, the net that comes is the same, in as many "
        + "steps; pairs by four orders, rounds at once, wires with sorts and signs, circles that wait for themselves, nets held "
        + "against others.");
    edges.says("Words in capitals are told where they come first. All numbers are whole; what has a number has it from 0 on. "
        + "NONE is -1.");
    HeadNets x = Check.with("kind P a+; net P = e;");
    edges.due("KIND 0", x.kind(0, 0), 1);
    edges.due("AGENT 0", x.agent(0), 0);
    edges.due("PORT 0 of it, at END 0", x.wired(0, 0), -2);
    edges.due("END 0", x.end(0), 0);
    edges.due("SHELF 0", x.keep(0), 1);
    edges.due("byte 0", x.print(0), 1);
    edges.due("of THE OUT", x.out(0), 'P');
    edges.due("NONE", HeadNets.NONE, -1);
    edges.due("a byte that is none", x.out(1), -1);
  }

  private void kinds() {
    edges.says("KINDS of AGENTS (16 at most)");
    edges.due("KINDS of no text", Check.with("").count(0), 0);
    HeadNets x = Check.with(Texts.kinds(16) + "net K0 = e, K15 = f;");
    edges.due("count(0)", x.count(0), 16);
    edges.due("kind(15, 0)", x.kind(15, 0), 1);
    edges.due("kind(16, 0)", x.kind(16, 0), HeadNets.UNKNOWN);
    edges.fault(4, Texts.kinds(16) + "kind ^K16 a+;");

    edges.says("have PORTS: 0, the HEAD, and 0 to 4 more;");
    HeadNets y = Check.with("kind A a+; kind B a+(b-); kind C a+(b-, c-, d-, e-);");
    edges.due("the HEAD alone", y.kind(0, 0), 1);
    edges.due("one more", y.kind(1, 0), 2);
    edges.due("four more", y.kind(2, 0), 5);
    edges.due("a fifth one", y.kind(2, 6), -5);
    edges.fault(4, "kind C a+(b-, c-, d-, e-, ^f-);");

    edges.says("An AGENT is one of a KIND.");
    edges.due("of the first one", x.agent(0), 0);
    edges.due("of the last one", x.agent(1), 15);
    edges.fault(3, Texts.kinds(16) + "net ^K16 = e;");
  }

  private void ports() {
    edges.says("each PORT has a SORT (a letter a to z) and a SIGN (+ or -).");
    HeadNets x = Check.with("kind A a+(a-, z+, z-, m-);");
    edges.dueRow("kind(0, ..)", what -> x.kind(0, what), 5, 0, 0, -1, 25, -26, -13);
    edges.fault(2, "kind A ^A+;");
    edges.fault(1, "kind A ^1+;");
    edges.fault(1, "kind A ^`+;");
    edges.fault(1, "kind A ^{+;");
    edges.fault(2, "kind A ^+;");
    edges.fault(2, "kind A a^;");
    edges.fault(2, "kind A a^,");
    edges.fault(2, "kind A a+^-;");
    edges.fault(2, "kind A a+^+;");
    edges.fault(2, "kind A a^= ;");
  }

  private void wires() {
    edges.says("A WIRE joins two PORTS, or a PORT and an END, or two ENDS;");
    HeadNets x = Check.with("kind A a+(a-); kind B a-; net A(x) = B, y = z;");
    edges.due("a HEAD and a HEAD", x.wired(0, 0), 8);
    edges.due("seen from there", x.wired(1, 0), 0);
    edges.due("a PORT and an END", x.wired(0, 1), -2);
    edges.due("seen from there", x.end(0), 1);
    edges.due("two ENDS", x.end(1), -4);
    edges.due("seen from there", x.end(2), -3);
    HeadNets own = Check.with("kind A a+(a-, b+, b-); net A(x, y, y) = x;");
    edges.due("a HEAD and a PORT of the same AGENT", own.wired(0, 0), 1);
    edges.due("seen from there", own.wired(0, 1), 0);
    edges.due("two PORTS of the same AGENT", own.wired(0, 2), 3);
    edges.due("seen from there", own.wired(0, 3), 2);
  }

  private void ends() {
    edges.says("ENDS (8 at most) are the names that a NET has free.");
    edges.due("none is free", Check.with("net x = y, y = x;").count(3), 0);
    HeadNets one = Check.with("kind A a+; net A = e;");
    edges.due("one", one.count(3), 1);
    edges.due("end(1)", one.end(1), HeadNets.UNKNOWN);
    HeadNets eight = Check.with("net a = b, c = d, e = f, g = h;");
    edges.due("eight", eight.count(3), 8);
    edges.due("end(7)", eight.end(7), -8);
    edges.due("end(8)", eight.end(8), HeadNets.UNKNOWN);
    edges.fault(7, "kind A a+; net a = b, c = d, e = f, g = h, i = A^;");
    edges.fault(7, "net a = b, c = d, e = f, g = h, i = j^;");
    edges.fault(7, "net " + Texts.joined(30, "a# = b#") + "^;");
    // names that are not free do not count among the eight
    edges.good(0, "net a = b, c = d, e = f, g = m, m = n, n = h, r = r;");
  }

  private void rings() {
    edges.says("A WIRE that joins nothing is a RING; RINGS are counted.");
    edges.due("none", Check.with("net x = y;").count(4), 0);
    edges.due("of one NAME", Check.with("net x = x;").count(4), 1);
    edges.due("of two NAMES", Check.with("net x = y, y = x;").count(4), 1);
    edges.due("of 60 NAMES", Check.with("net " + circle(60) + ";").count(4), 1);
    edges.due("60 of them", Check.with("net " + Texts.joined(60, "n# = n#") + ";").count(4), 60);
    HeadNets beside = Check.with("kind A a+(a-); net x = A(x), r = s, t = s, r = t, e = u, u = f;");
    edges.due("beside wires that join something", beside.count(4), 1);
  }

  /** Links n0 = n1, n1 = n2, .. and back to n0. */
  static String circle(int n) {
    StringBuilder text = new StringBuilder();
    for (int i = 0; i < n; i++) {
      text.append(i == 0 ? "" : ", ").append('n').append(i).append(" = n").append((i + 1) % n);
    }
    return text.toString();
  }

  /** Likewise, but without the way back: the first and the last of n NAMES stand once. */
  static String chain(int n) {
    String text = circle(n);
    return text.substring(0, text.lastIndexOf(','));
  }

  private void fitting() {
    edges.says("Two PORTS FIT, if they have the same SORT and unlike SIGNS.");
    String kinds = "kind A a+; kind B a-; kind C b+; kind D b-; kind Y z+; kind Z z-; ";
    edges.good(2, kinds + "net A = B;");
    edges.good(2, kinds + "net B = A;");
    edges.good(2, kinds + "net Y = Z;");
    edges.fault(7, kinds + "net A = A^;");
    edges.fault(7, kinds + "net B = B^;");
    edges.fault(7, kinds + "net A = D^;");
    edges.fault(7, kinds + "net C = B^;");
    edges.fault(7, kinds + "net A = C^;");
    edges.fault(7, kinds + "net A = Z^;");
    edges.fault(7, kinds + "net A = x, x = y, y = A^;");
    edges.fault(7, "kind A a+(a-); net A(x) = e, A(x) = f^;");
    edges.good(1, "kind A a+(a-); net A(x) = x;");
    edges.fault(7, "kind A a+(a+); net A(x) = x^;");
    edges.fault(7, "kind A a+(b-); net A(x) = x^;");
  }
}
