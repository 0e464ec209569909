/** Boundary cases of the document's section 2: tokens, the grammar, what names and rules stand for. */
final class TokenEdges {
  private static final String AB = "kind A a+(a-); kind B a-(a+); kind Z a+; kind E a-; ";

  private final Edges edges;

  private TokenEdges(Edges edges) {
    this.edges = edges;
  }

  static void ask(Edges edges) {
    TokenEdges of = new TokenEdges(edges);
    edges.section("Section 2");
    of.tape();
    of.blanks();
    of.names();
    of.signs();
    of.rows();
    of.books();
    of.kinds();
    of.rules();
    of.nets();
    of.terms();
    of.wordsAsNames();
    of.standings();
    of.rulesForKinds();
    of.limits();
  }

  private void tape() {
    edges.says("TEXTS. THE TAPE has 4000 bytes at most.");
    String kinds = "kind Z a+;kind E a-;";
    String net = "net " + Texts.joined(99, "Z=E").replace(" ", "");
    String text = kinds + " ".repeat(4000 - kinds.length() - net.length() - 1) + net + ";";
    edges.due("bytes of the text", text.length(), 4000);
    edges.good(198, text);
    HeadNets x = new HeadNets();
    Check.feed(x, text);
    edges.due("feed() behind 4000 bytes", x.feed(0, 0, 0, 0, 0), HeadNets.FULL);
    edges.due("read() of 4000 bytes", x.read(), 198);
    edges.fault(2, "net " + "r=r,".repeat(999) + "^");
    edges.good(0, "net;" + "\n".repeat(3996));
    // as many TOKENS as there can be
    edges.faultAt(2, 0, ";".repeat(4000));
    edges.faultAt(2, 4, "net " + "=".repeat(3996));
    edges.faultAt(1, 0, "$".repeat(4000));
  }

  private void blanks() {
    edges.says("TOKENS, as long as can be,");
    edges.fault(2, "^netx = y;");
    edges.fault(2, "^net1;");
    edges.fault(1, "^netX = y;");
    edges.fault(2, "kind Aa^+;");
    edges.fault(2, "^ne t;");
    edges.good(0, "kind A a+;kind B a-;rule A><B:x=x;");
    edges.fault(1, "kind A a+; kind B a-; rule A ^> < B;");

    edges.says("blanks (10, 32) between them or none:");
    edges.good(2, "kind A a+(b-);kind B b+;net A(B)=x;");
    edges.good(2, " \n kind\nA\na\n+\n(\nb\n-\n)\n;  kind B b + ; net A ( B\n) = x \n;\n\n ");
    for (int b : new int[] {0, 8, 9, 11, 12, 13, 31, 33, 127, 128, 138, 160, 255}) {
      edges.faultAt(1, 3, "net" + (char) b + ";");
    }
  }

  private void names() {
    edges.says("NAMES (a letter a to z, then such letters and digits), 1 to 8 bytes;");
    edges.good(0, "net a = z, abcdefgh = zyxwvuts, a0 = z9, a1234567 = a0000000;");
    edges.fault(1, "net ^abcdefghi = x;");
    edges.fault(1, "net ^a12345678 = x;");
    edges.fault(1, "net ^aA = x;");
    edges.fault(1, "net ^aaaaaaaZ = x;");
    edges.fault(1, "net ^0a = x;");
    edges.fault(1, "net a^` = x;");
    edges.fault(1, "net a^{ = x;");
    edges.fault(1, "net a^/ = x;");
    // NAMES that are alike but for one byte, or but for a byte more
    edges.due("ENDS", Check.with("net abcdefg1 = abcdefg2, a = aa, aa0 = a0;").count(3), 6);
    edges.due("one NAME twice", Check.with("net abcdefgh = abcdefgh;").count(3), 0);

    edges.says("BIG NAMES (a letter A to Z, then letters of both sorts and digits), 1 to 8 bytes;");
    edges.good(0, "kind A a+; kind Z a+; kind Zz a+; kind ZZ a+; kind A0 a+; kind A9 a+;");
    edges.good(0, "kind ABCDEFGH a+; kind Abcdefgh a+; kind A1234567 a+; kind A123456z a+; kind A123456Z a+;");
    edges.fault(1, "kind ^ABCDEFGHI a+;");
    edges.fault(1, "kind ^Abcdefghi a+;");
    edges.fault(1, "kind ^0A a+;");
    edges.fault(1, "kind ^@ a+;");
    edges.fault(1, "kind ^[ a+;");
    edges.fault(1, "kind A^_B a+;");
    HeadNets x = Check.with("kind Abcdefg1 a+; kind Abcdefg2 a+; kind A a+; kind AA a+; net x = AA, y = Abcdefg2;");
    edges.due("the KIND of AA", x.agent(0), 3);
    edges.due("the KIND of Abcdefg2", x.agent(1), 1);
    edges.due("print(1)", Check.tree(x, 1), "Abcdefg2");
  }

  private void signs() {
    edges.says("SIGNS ( ) , = ; + - : and the two bytes >< .");
    for (int b = 0; b < 256; b++) {
      if (b != 10 && b != 32) {
        boolean isToken = b >= 'a' && b <= 'z' || b >= 'A' && b <= 'Z' || "(),=;+-:".indexOf(b) >= 0;
        edges.faultAt(isToken ? 2 : 1, 0, "" + (char) b);
      }
    }
    edges.fault(2, "^><");
    edges.fault(1, "^>");
    edges.fault(1, "^<>");
    edges.fault(1, "^>=<");
    edges.fault(1, AB + "rule Z ^>>< E;");
    edges.fault(1, AB + "rule Z ><^< E;");
    edges.fault(1, AB + "rule Z ^>\n< E;");
    edges.fault(2, AB + "rule Z ><^>< E;");
  }

  private void rows() {
    edges.says("A row of letters and digits is one TOKEN, or none, if it is neither.");
    edges.fault(1, "net ^9;");
    edges.fault(1, "net ^9x = y;");
    edges.fault(1, "net ^x9X = y;");
    edges.fault(1, "net ^netnetnet;");
    edges.fault(1, "net ^" + "a".repeat(3996));
    edges.fault(1, "^" + "9".repeat(4000));
    edges.good(0, "net x9=y9;");
  }

  private void books() {
    edges.says("book = {kind | rule | net}");
    edges.good(0, "");
    edges.good(0, "\n");
    edges.good(0, "net; kind A a+; rule A >< A; kind B a-; rule A >< B;");
    edges.fault(2, "net;^;");
    edges.fault(2, "kind A a+;^x");
    edges.fault(2, "kind A a+; ^A");
    edges.fault(2, "^= kind A a+;");
    edges.fault(1, "kind A a+;^?");
  }

  /** Each beginning of a text, cut off behind one of its tokens, has fault 2 at its end. */
  private void cutOff(String before, String tokens) {
    StringBuilder text = new StringBuilder(before);
    for (String token : tokens.split(" ")) {
      text.append(token);
      if (token.equals(";")) {
        edges.good(0, text.toString());
      } else {
        edges.faultAt(2, text.length(), text.toString());
        edges.faultAt(2, text.length() + 2, text + " \n");
        edges.faultAt(1, text.length() + 1, text + " ?");
      }
      text.append(' ');
    }
  }

  private void kinds() {
    edges.says("kind = 'kind' BIG port ['(' port {',' port} ')'] ';'");
    cutOff("", "kind A a + ( b - , c + , d - , e + ) ;");
    cutOff("", "kind A a + ;");
    edges.fault(2, "kind ^a a+;");
    edges.fault(2, "kind ^kind a+;");
    edges.fault(2, "kind A ^(b-);");
    edges.fault(2, "kind A a+(^);");
    edges.fault(2, "kind A a+(b-,^);");
    edges.fault(2, "kind A a+(^,b-);");
    edges.fault(2, "kind A a+(b-)^(c-);");
    edges.fault(2, "kind A a+^);");
    edges.fault(2, "kind A a+(b- ^c-);");

    edges.says("port = NAME of one letter, then + or -");
    edges.fault(2, "kind A ^aa+;");
    edges.fault(2, "kind A ^a1+;");
    edges.fault(2, "kind A ^net+;");
    edges.fault(2, "kind A a+(^bb-);");
    edges.fault(2, "kind A a+(b^);");
    edges.fault(2, "kind A a ^a+;");
  }

  private void rules() {
    edges.says("rule = 'rule' side '><' side [':' link {',' link}] ';'");
    cutOff("kind Z a+; kind E a-; ", "rule Z >< E : x = x , y = z , z = y ;");
    cutOff("kind Z a+; kind E a-; ", "rule Z >< E ;");
    edges.fault(2, AB + "rule ^;");
    edges.fault(2, AB + "rule Z ^E;");
    edges.fault(2, AB + "rule Z >< ^;");
    edges.fault(2, AB + "rule Z >< E :^;");
    edges.fault(2, AB + "rule Z >< E : x = x,^;");
    edges.fault(2, AB + "rule Z >< E ^x = x;");
    edges.fault(2, AB + "rule Z >< E : x = x ^: y = y;");
    edges.fault(2, AB + "rule Z >< E ^>< Z;");

    edges.says("side = BIG ['(' NAME {',' NAME} ')']");
    edges.good(0, "kind C a+(b-, c-, d-, e-); kind E a-; kind F b-; kind G c-; kind H d-; kind I e-;"
        + "rule C(x, y, z, w) >< E : x = F, y = G, z = H, w = I;");
    edges.fault(2, AB + "rule ^z >< E;");
    edges.fault(2, AB + "rule A(^) >< E;");
    edges.fault(2, AB + "rule A(x,^) >< E;");
    edges.fault(2, AB + "rule A(^Z) >< E;");
    edges.fault(2, AB + "rule A(x^(y)) >< E;");
    edges.fault(2, AB + "rule A(x ^y) >< E;");
    edges.fault(2, AB + "rule A(x ^>< E;");
    edges.fault(2, AB + "rule A(x)^(y) >< E;");
  }

  private void nets() {
    edges.says("net = 'net' [link {',' link}] ';'");
    cutOff("", "net ;");
    cutOff("", "net a = b , c = d , e = f ;");
    edges.fault(2, "net ^, a = b;");
    edges.fault(2, "net a = b,^;");
    edges.fault(2, "net a = b ^c = d;");
    edges.fault(2, "net ^: a = b;");

    edges.says("link = term '=' term");
    edges.fault(2, "net a^;");
    edges.fault(2, "net a =^;");
    edges.fault(2, "net ^= a;");
    edges.fault(2, "net a = b ^= c;");
    edges.fault(2, "net a ^b;");

    edges.says("term = NAME | BIG ['(' term {',' term} ')']");
    edges.good(3, AB + "net A(A(Z)) = x;");
    edges.fault(2, AB + "net a^(b) = c;");
    edges.fault(2, AB + "net A(^) = c;");
    edges.fault(2, AB + "net A(x,^) = c;");
    edges.fault(2, AB + "net A(x ^y) = c;");
    edges.fault(2, AB + "net A(x^;");
    edges.fault(2, AB + "net ^(x) = c;");
    edges.fault(2, AB + "net A(x ^= y) = c;");
    edges.fault(2, AB + "net Z = E^) ;");
  }

  private void terms() {
    edges.says("A BIG NAME in a term is an AGENT; the term stands for its HEAD; the terms in brackets are wired to its other "
        + "PORTS, in order.");
    HeadNets x = Check.with("kind N a+(a-, a-, a-, a-); kind Z a+; net e = N(Z, f, N(g, Z, h, i), Z);");
    // N Z N Z Z have the numbers 0 to 4
    edges.dueRow("wired(0, ..)", p -> x.wired(0, p), -2, 8, -3, 16, 32);
    edges.dueRow("wired(2, ..)", p -> x.wired(2, p), 3, -4, 24, -5, -6);
    edges.due("END 0 is at the HEAD", x.end(0), 0);
    HeadNets none = Check.with("net e = f;");
    edges.due("no AGENT", none.count(2), 0);

    edges.says("A NAME stands for one end of a wire of that name. A link wires what both terms stand for.");
    HeadNets chain = Check.with("net " + WireEdges.chain(60) + ";");
    edges.due("ENDS of a wire with 60 NAMES", chain.count(3), 2);
    edges.due("end(0)", chain.end(0), -3);
    edges.due("end(1)", chain.end(1), -2);
    HeadNets wired = Check.with(AB + "net E = n0, n9 = Z, " + WireEdges.chain(10) + ";");
    edges.due("wired(0, 0)", wired.wired(0, 0), 8);
    edges.due("wired(1, 0)", wired.wired(1, 0), 0);
    edges.due("RINGS", wired.count(4), 0);
  }

  private void wordsAsNames() {
    edges.says("kind, rule, net may be NAMES, too, but not at the beginning of something.");
    edges.good(0, "net net = kind, rule = net;");
    edges.due("their ENDS", Check.with("net net = kind, rule = net;").count(3), 2);
    edges.good(0, AB + "rule A(net) >< B(rule) : net = kind, kind = rule;");
    edges.good(1, AB + "net A(net) = net;");
    edges.fault(2, "net x = y; ^x = y;");
    edges.fault(2, "^kinds A a+;");
    edges.fault(2, "net x = y ^rule Z >< E;");
  }

  private void standings() {
    edges.says("In a rule each NAME stands just twice, in sides and links together;");
    edges.good(0, AB + "rule A(x) >< B(x);");
    edges.good(0, AB + "rule A(x) >< B(y) : x = y;");
    edges.good(0, AB + "rule Z >< E : x = x;");
    edges.fault(6, AB + "rule A(x) >< E^;");
    edges.fault(6, AB + "rule Z >< E : x = E^;");
    edges.fault(6, AB + "rule A(x) >< B(x) : x = E^;");
    edges.fault(6, AB + "rule Z >< E : x = x, x = x^;");

    edges.says("in a net just twice, or once: then it is an END, numbered as they come first.");
    HeadNets x = Check.with(AB + "net w = A(v), t = t, A(u) = B(v2), v2 = s;");
    // once: w v u s; twice: t v2
    edges.due("count(3)", x.count(3), 4);
    edges.dueRow("end", x::end, 0, 1, 9, 17);
    edges.fault(7, "net x = x, x = y^;");
    edges.fault(7, "net x = x, x = x^;");
    edges.fault(7, AB + "net A(x) = x, x = E^;");

    edges.says("ENDS have no SORT.");
    HeadNets y = Check.with("kind A a+(b-, c+, d-); net a = A(b, c, d), e = f;");
    edges.dueRow("end", y::end, 0, 1, 2, 3, -7, -6);
  }

  private void rulesForKinds() {
    edges.says("A RULE is for two KINDS, unlike or not; the order of its sides does not matter");
    HeadNets x = Check.with(AB + "rule Z >< Z : Z = E; rule A(x) >< E : x = E, Z = E; net E = A(p), A(q) = E;");
    edges.due("rule(2, 2)", x.rule(2, 2), 2);
    edges.due("rule(0, 3)", x.rule(0, 3), 3);
    edges.due("rule(3, 0)", x.rule(3, 0), 3);
    edges.due("count(5)", x.count(5), 2);
    edges.due("step(0): E is the lesser AGENT", x.step(0), 1);
    edges.due("what came to p", x.agent(x.end(0) / 8), 3);
    edges.due("step(2): A is", x.step(2), 1);
    edges.due("what came to q", x.agent(x.end(1) / 8), 3);

    edges.says("(but for one KIND with itself: the first AGENT is the one with the lesser number).");
    // HEADS of one KIND do not FIT, so no net can have such a PAIR: the RULE is there, but never has its turn
    edges.due("rule(0, 0)", Check.with("kind C a+(b-); kind F b-; rule C(x) >< C(y) : x = F, y = F;").rule(0, 0), 2);
    edges.fault(7, AB + "rule Z >< Z; net Z = Z^;");

    edges.says("There is one RULE for two KINDS at most.");
    edges.fault(6, AB + "rule Z >< E; rule Z >< E^;");
    edges.fault(6, AB + "rule Z >< E; rule E >< Z^;");
    edges.fault(6, AB + "rule Z >< Z; rule Z >< Z^;");
    edges.good(0, AB + "rule Z >< E; rule Z >< Z; rule E >< E;");
  }

  private void limits() {
    String pm = "kind Z a+; kind E a-; ";
    edges.says("RULES: 60 at most;");
    edges.due("60", Check.with(Texts.kinds(16) + Texts.rules(60)).count(1), 60);
    edges.fault(4, Texts.kinds(16) + Texts.rules(60) + "^rule K15 >< K15;");

    edges.says("AGENTS in all links of a RULE 12 at most;");
    edges.due("12", Check.with(pm + "rule Z >< E : " + Texts.joined(6, "Z = E") + ";").rule(0, 1), 12);
    edges.fault(4, pm + "rule Z >< E : " + Texts.joined(6, "Z = E") + ", x = ^Z, x = E;");
    edges.good(0, AB + "rule Z >< E : E = " + Texts.nested(10, "Z") + ";");
    edges.fault(4, AB + "rule Z >< E : E = " + Texts.nested(11, "^Z") + ";");
    edges.due("none", Check.with(pm + "rule Z >< E;").rule(0, 1), 0);

    edges.says("unlike NAMES in a RULE, in a net 60 at most;");
    edges.good(0, AB + "rule A(x) >< B(y) : x = y, " + Texts.joined(58, "n# = n#") + ";");
    edges.fault(4, AB + "rule A(x) >< B(y) : x = y, " + Texts.joined(58, "n# = n#") + ", ^m = m;");
    edges.good(0, AB + "rule A(x) >< B(x) : " + Texts.joined(59, "n# = n#") + ";");
    edges.fault(4, AB + "rule A(x) >< B(x) : " + Texts.joined(59, "n# = n#") + ", ^m = m;");
    edges.fault(4, AB + "rule A(" + Texts.joined(60, "n#") + ", ^m) >< B(x);");
    edges.fault(4, AB + "rule A(x) >< B(" + Texts.joined(59, "n#") + ", ^m);");
    edges.good(0, "net " + Texts.joined(60, "n# = n#") + ";");
    edges.good(0, "net " + WireEdges.circle(60) + ";");
    edges.fault(4, "net " + Texts.joined(60, "n# = n#") + ", ^m = m;");
    // each rule and each net has its own NAMES
    edges.good(0, pm + "rule Z >< E : " + Texts.joined(60, "n# = n#") + "; rule Z >< Z : " + Texts.joined(60, "m# = m#")
        + "; net " + Texts.joined(60, "o# = o#") + ";");

    edges.says("AGENTS in a net 200 at most.");
    edges.good(200, pm + "net " + Texts.joined(100, "Z = E") + ";");
    edges.fault(4, pm + "net " + Texts.joined(100, "Z = E") + ", ^Z = E;");
    edges.fault(4, AB + "net " + Texts.joined(99, "Z = E") + ", A(Z) = ^E;");
  }
}
