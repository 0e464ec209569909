/** Promises 17 to 20: keep, back, like, reached. */
public final class ShelfTest {
  private static final Check CHECK = new Check("ShelfTest");
  private static final String KINDS = "kind P a+; kind M a-; kind Z a+(a-); kind D a+(a-, a-); kind Q a+; "
      + "rule P >< M; rule Z(x) >< M : x = M; rule Q >< M : r = r; rule D(x, y) >< M : x = M, y = M; ";

  public static void main(String[] args) {
    refusals();
    keepingAndBack();
    likeness();
    reaching();
    CHECK.close();
  }

  private static void refusals() {
    HeadNets x = Check.with(KINDS + "net P = M;");
    for (int s : new int[] {-1, 4, Integer.MAX_VALUE, Integer.MIN_VALUE}) {
      CHECK.due("keep(" + s + ")", x.keep(s), HeadNets.UNKNOWN);
      CHECK.due("back(" + s + ")", x.back(s), HeadNets.UNKNOWN);
      CHECK.due("like(" + s + ")", x.like(s), HeadNets.UNKNOWN);
    }
    CHECK.due("keep(3)", x.keep(3), 2);
    CHECK.due("back(2)", x.back(2), HeadNets.STATE);
    CHECK.due("like(2)", x.like(2), HeadNets.STATE);
    CHECK.due("like(3)", x.like(3), 1);
  }

  private static void keepingAndBack() {
    HeadNets x = Check.with(KINDS + "net Z(D(P, P)) = M, e = P, Q = M;");
    CHECK.due("keep(0)", x.keep(0), 8);
    CHECK.due("run(0, 9)", x.run(0, 9), 5);
    CHECK.due("count(2)", x.count(2), 1);
    CHECK.due("keep(1)", x.keep(1), 1);
    CHECK.due("back(0)", x.back(0), 8);
    CHECK.due("count(2)", x.count(2), 8);
    CHECK.due("count(4)", x.count(4), 0);
    CHECK.due("count(8) stays", x.count(8), 5);
    CHECK.due("count(9) stays", x.count(9), 8);
    CHECK.due("agent(0)", x.agent(0), 2);
    CHECK.due("wired(1, 2)", x.wired(1, 2), 24);
    CHECK.due("end(0)", x.end(0), 40);
    CHECK.due("back(1)", x.back(1), 1);
    CHECK.due("count(4)", x.count(4), 1);
    CHECK.due("agent(0)", x.agent(0), HeadNets.UNKNOWN);
    CHECK.due("agent(5)", x.agent(5), 0);
    CHECK.due("back(0): a shelf keeps what it has", x.back(0), 8);
    CHECK.due("run(1, 2)", x.run(1, 2), 2);
    CHECK.due("keep(0)", x.keep(0), x.count(2));
    CHECK.due("like(0)", x.like(0), 1);
    CHECK.due("like(1)", x.like(1), 0);
  }

  /** Nets that differ by which of their pairs has gone. */
  private static void likeness() {
    HeadNets x = Check.with(KINDS + "net Z(P) = M, Z(P) = M, e = Z(Z(f));");
    x.keep(0);
    x.step(0);
    x.keep(1);
    CHECK.due("as many, but other kinds", x.like(0), 0);
    x.back(0);
    x.step(3);
    CHECK.due("how the others are wired is not looked at", x.like(1), 1);
    HeadNets rings = Check.with(KINDS + "net Q = M, P = M;");
    rings.keep(0);
    rings.step(0);
    rings.keep(1);
    rings.back(0);
    rings.step(2);
    CHECK.due("as many agents, but another kind and a ring", rings.like(1), 0);
    HeadNets ring = Check.with("kind P a+; kind M a-; rule P >< M : P = M, r = r; net P = M;");
    ring.keep(0);
    ring.step(0);
    CHECK.due("a ring more", ring.like(0), 0);
    likeAfterAnyOrder();
    endsDiffer();
  }

  private static void likeAfterAnyOrder() {
    String text = "kind Z n+; kind S n+(n-); kind Add n-(n-, n+); kind D n-(n+, n+); rule Z >< Add(y, r) : r = y;"
        + "rule S(x) >< Add(y, r) : x = Add(S(y), r); rule Z >< D(a, b) : a = Z, b = Z;"
        + "rule S(x) >< D(a, b) : x = D(c, d), a = S(c), b = S(d);"
        + "net S(S(S(Z))) = D(p, q), p = Add(q, r), S(S(Z)) = Add(u, v), u = S(Z);";
    HeadNets x = Check.with(text);
    x.keep(0);
    int steps = x.run(0, 3000);
    x.keep(1);
    for (int order = 1; order < 4; order++) {
      x.back(0);
      CHECK.due("as many steps by order " + order, x.run(order, 3000), steps);
      CHECK.due("like(1) by order " + order, x.like(1), 1);
      CHECK.due("like(0) by order " + order, x.like(0), 0);
    }
    CHECK.due("tree", Check.tree(x, 0), "S(S(S(S(S(S(Z))))))");
  }

  private static void endsDiffer() {
    HeadNets x = Check.with("kind K a+(a-); kind L a-(a+); kind P a+; kind M a-; rule K(x) >< L(y) : x = y; rule P >< M;"
        + "net K(a) = L(b), K(c) = L(d), P = M;");
    x.keep(0);
    x.step(0);
    CHECK.due("fewer are reached", x.like(0), 0);
    x.keep(1);
    x.back(0);
    x.step(2);
    CHECK.due("ENDS are wired otherwise", x.like(1), 0);
    x.back(0);
    x.step(4);
    CHECK.due("what is reached is the same, the rest is less", x.like(0), 0);
    HeadNets turned = Check.with("kind K a+(a-, a-); kind L a-(a+, a+); kind C a-(a+, a+); rule K(x, y) >< L(u, v) : x = u, y = v;"
        + "rule K(x, y) >< C(u, v) : x = v, y = u; net K(a, b) = L(p, q), K(c, d) = C(r, s);");
    turned.keep(0);
    turned.run(0, 1);
    turned.keep(1);
    turned.back(0);
    turned.run(1, 1);
    CHECK.due("as many agents, of other kinds", turned.like(1), 0);
  }

  private static void reaching() {
    HeadNets x = Check.with(KINDS + "net e = Z(D(P, P)), Z(P) = M, f = g;");
    CHECK.due("reached()", x.reached(), 4);
    HeadNets up = Check.with(KINDS + "net Z(D(P, e)) = M;");
    CHECK.due("heads are gone through, too", up.reached(), 4);
    HeadNets none = Check.with(KINDS + "net P = M;");
    CHECK.due("no ENDS", none.reached(), 0);
    HeadNets all = Check.with(KINDS + "net Z(a) = M, Z(b) = M, P = M;");
    CHECK.due("from all ENDS", all.reached(), 4);
  }
}
