/** Promises 6 to 12: count, kind, rule, agent, wired, end, pair. */
public final class ThereTest {
  private static final Check CHECK = new Check("ThereTest");
  private static final String TEXT = "kind Z n+; kind S n+(n-); kind Add n-(n-, n+); kind E n-; kind T a-(b+, z-, z+, b-);"
      + "rule Z >< Add(y, r) : r = y; rule S(x) >< Add(y, r) : x = Add(S(y), r); rule Z >< E;"
      + "net S(Z) = Add(u, v), S(w) = E, Z = E, u = Z, h = T(a, b, b, c), g = g, k = m, m = k, p = q;";

  public static void main(String[] args) {
    counts();
    circles();
    kindsAndRules();
    wires();
    pairs();
    CHECK.close();
  }

  private static void counts() {
    HeadNets x = Check.with(TEXT);
    int[] due = {5, 3, 9, 7, 2, 2, 1, 0, 0, 9, 0, 0, 0};
    for (int what = 0; what < due.length; what++) {
      CHECK.due("count(" + what + ")", x.count(what), due[what]);
    }
    CHECK.due("count(-1)", x.count(-1), HeadNets.OUTSIDE);
    CHECK.due("count(13)", x.count(13), HeadNets.OUTSIDE);
    CHECK.due("count(MIN)", x.count(Integer.MIN_VALUE), HeadNets.OUTSIDE);
    CHECK.due("run", x.run(2, 3000), 3);
    int[] later = {5, 3, 5, 7, 2, 0, 1, 0, 3, 9, 2, 0, 0};
    for (int what = 0; what < later.length; what++) {
      CHECK.due("count(" + what + ") after run", x.count(what), later[what]);
    }
    HeadNets grown = Check.with("kind A a+; kind B a-; rule A >< B : A = B, x = A, x = B; net A = B;");
    grown.run(0, 7);
    CHECK.due("count(2), grown", grown.count(2), 16);
    CHECK.due("count(9), grown", grown.count(9), 16);
  }

  private static void circles() {
    String kinds = "kind A a+(a-); kind B a-(a+); kind C a-(a+, a+); kind Z a+; kind E a-; kind D a+(a-, a-); ";
    circlesDue(0, kinds + "net x = A(A(A(Z)));");
    circlesDue(1, kinds + "net x = A(x);");
    circlesDue(1, kinds + "net x = A(y), y = A(x);");
    circlesDue(3, kinds + "net x = A(y), y = A(A(x)), p = A(p), q = B(B(q));");
    circlesDue(1, kinds + "net x = D(x, A(A(Z)));");
    circlesDue(1, kinds + "net x = D(A(x), D(Z, A(r)));");
    // a chain that leads into a circle is counted once, from whichever agent one begins
    circlesDue(1, kinds + "net D(x, A(Z)) = x, A(q) = E;");
    circlesDue(0, kinds + "net A(x) = B(x);");
    circlesDue(2, kinds + "net D(x, Z) = x, D(y, A(A(Z))) = y;");
    circlesDue(0, "");
    circlesDue(1, kinds + "net A(A(A(A(A(A(A(A(A(A(A(x))))))))))) = x;");
  }

  private static void circlesDue(int number, String text) {
    CHECK.due("count(7) of " + text, Check.with(text).count(7), number);
  }

  private static void kindsAndRules() {
    HeadNets x = Check.with(TEXT);
    int[][] due = {{1, 3, 13, -100, -100, -100, -100}, {2, 2, 13, -14, -100, -100, -100},
        {3, 1, -14, -14, 13, -100, -100}, {1, 2, -14, -100, -100, -100, -100}, {5, 1, -1, 1, -26, 25, -2}};
    for (int k = 0; k < due.length; k++) {
      for (int what = 0; what < 7; what++) {
        CHECK.due("kind(" + k + ", " + what + ")", x.kind(k, what), due[k][what]);
      }
    }
    CHECK.due("kind(5, 9)", x.kind(5, 9), HeadNets.UNKNOWN);
    CHECK.due("kind(-1, 0)", x.kind(-1, 0), HeadNets.UNKNOWN);
    CHECK.due("kind(0, 7)", x.kind(0, 7), HeadNets.OUTSIDE);
    CHECK.due("kind(0, -1)", x.kind(0, -1), HeadNets.OUTSIDE);
    CHECK.due("rule(0, 2)", x.rule(0, 2), 0);
    CHECK.due("rule(2, 0)", x.rule(2, 0), 0);
    CHECK.due("rule(1, 2)", x.rule(1, 2), 2);
    CHECK.due("rule(2, 1)", x.rule(2, 1), 2);
    CHECK.due("rule(3, 1)", x.rule(3, 1), HeadNets.NONE);
    CHECK.due("rule(0, 0)", x.rule(0, 0), HeadNets.NONE);
    CHECK.due("rule(0, 5)", x.rule(0, 5), HeadNets.UNKNOWN);
    CHECK.due("rule(-1, 0)", x.rule(-1, 0), HeadNets.UNKNOWN);
    CHECK.due("rule(16, 16)", x.rule(16, 16), HeadNets.UNKNOWN);
  }

  private static void wires() {
    HeadNets x = Check.with(TEXT);
    int[] kinds = {1, 0, 2, 1, 3, 0, 3, 0, 4};
    for (int n = 0; n < kinds.length; n++) {
      CHECK.due("agent(" + n + ")", x.agent(n), kinds[n]);
    }
    CHECK.due("agent(9)", x.agent(9), HeadNets.UNKNOWN);
    CHECK.due("agent(-1)", x.agent(-1), HeadNets.UNKNOWN);
    CHECK.due("agent(400)", x.agent(400), HeadNets.UNKNOWN);
    // ENDS as they come first: v, w, h, a, c, p, q
    int[][] due = {{16, 8}, {1}, {0, 56, -2}, {32, -3}, {24}, {48}, {40}, {17}, {-4, -5, 67, 66, -6}};
    for (int n = 0; n < due.length; n++) {
      for (int p = 0; p < due[n].length; p++) {
        CHECK.due("wired(" + n + ", " + p + ")", x.wired(n, p), due[n][p]);
      }
      CHECK.due("wired(" + n + ", beyond)", x.wired(n, due[n].length), HeadNets.OUTSIDE);
      CHECK.due("wired(" + n + ", -1)", x.wired(n, -1), HeadNets.OUTSIDE);
    }
    CHECK.due("wired(9, 9)", x.wired(9, 9), HeadNets.UNKNOWN);
    CHECK.due("wired(-1, 0)", x.wired(-1, 0), HeadNets.UNKNOWN);
    int[] ends = {18, 25, 64, 65, 68, -8, -7};
    for (int e = 0; e < ends.length; e++) {
      CHECK.due("end(" + e + ")", x.end(e), ends[e]);
    }
    CHECK.due("end(7)", x.end(7), HeadNets.UNKNOWN);
    CHECK.due("end(-1)", x.end(-1), HeadNets.UNKNOWN);
    CHECK.due("end(-3)", x.end(-3), HeadNets.UNKNOWN);
  }

  private static void pairs() {
    HeadNets x = Check.with(TEXT);
    CHECK.due("pair(0)", x.pair(0), 0);
    CHECK.due("pair(1)", x.pair(1), 5);
    CHECK.due("pair(2)", x.pair(2), HeadNets.NONE);
    CHECK.due("pair(-1)", x.pair(-1), HeadNets.NONE);
    CHECK.due("pair(MAX)", x.pair(Integer.MAX_VALUE), HeadNets.NONE);
    HeadNets y = Check.with("kind A a+(a-); kind B a-; rule A(x) >< B : x = B; net A(A(x)) = B, y = A(z);");
    CHECK.due("a HEAD at another port is in no pair", y.pair(0), 0);
    CHECK.due("count(5)", y.count(5), 1);
    CHECK.due("count(6)", y.count(6), 0);
  }
}
