/** Boundary cases of promises 21 and 22: print, out. */
final class OutEdges {
  private static final String LEAF = "L12345(@,@,@,@)";
  /** What one S becomes in the tree, up to where the next one's stands. */
  private static final String LEVEL = "T123(T123(" + LEAF + "," + LEAF + "," + LEAF + "," + LEAF + ")," + LEAF + "," + LEAF + ",";

  private final Edges edges;

  private OutEdges(Edges edges) {
    this.edges = edges;
  }

  static void ask(Edges edges) {
    OutEdges of = new OutEdges(edges);
    edges.promise(21);
    of.shortTrees();
    of.longTrees();
    of.refusals();
    edges.promise(22);
    of.bytes();
  }

  /** An object whose END 0 has a tree of some levels with a name of some length inmost: 108 bytes a level. */
  private static HeadNets withTree(int levels, String inmost) {
    StringBuilder net = new StringBuilder("net n0 = F(e)");
    int links = 0;
    for (int left = levels; left > 0; left -= 10) {
      int now = Math.min(left, 10);
      net.append(", n").append(links++).append(" = ").append("S(".repeat(now)).append('n').append(links).append(")".repeat(now));
    }
    HeadNets x = Check.with("kind T123 a+(a-, a-, a-, a-); kind L12345 a+(b-, b+, b-, b+); kind F a-(a+); kind S a+(a-); kind " + inmost
        + " a+; rule " + inmost + " >< F(r) : r = " + inmost + "; rule S(x) >< F(r) : x = F(s), r = T123(T123(L12345(a, a, b, b), "
        + "L12345(c, c, d, d), L12345(e, e, f, f), L12345(g, g, h, h)), L12345(i, i, j, j), L12345(k, k, l, l), s); "
        + net + ", n" + links + " = " + inmost + ";");
    x.run(0, 3000);
    return x;
  }

  private static String tree(int levels, String inmost) {
    return LEVEL.repeat(levels) + inmost + ")".repeat(levels);
  }

  private void shortTrees() {
    edges.says("THE OUT becomes THE TREE of an END");
    HeadNets x = Check.with("kind Z a+; kind Abcdefgh a+; net a = Z, b = Abcdefgh, c = d;");
    edges.due("print(1)", x.print(1), 8);
    edges.due("THE OUT", Check.out(x), "Abcdefgh");
    edges.due("print(0), shorter", x.print(0), 1);
    edges.due("THE OUT", Check.out(x), "Z");
    edges.due("print(2)", x.print(2), 2);
    edges.due("THE OUT", Check.out(x), "#3");
    edges.due("print(3)", x.print(3), 2);
    edges.due("THE OUT", Check.out(x), "#2");
    edges.due("count(12)", x.count(12), 2);
  }

  private void longTrees() {
    edges.says("(its first 4000 bytes): how many bytes.");
    for (int length = 3999; length <= 4001; length++) {
      // 37 levels have 3996 bytes
      String inmost = "Zzzzzzzz".substring(0, length - 3996);
      String whole = tree(37, inmost);
      edges.due("bytes of the whole tree", whole.length(), length);
      HeadNets x = withTree(37, inmost);
      edges.due("print(0) of " + length, x.print(0), Math.min(length, 4000));
      edges.due("count(12) of " + length, x.count(12), Math.min(length, 4000));
      edges.due("THE OUT of " + length, Check.out(x), whole.substring(0, Math.min(length, 4000)));
    }
    HeadNets more = withTree(39, "Zzzzzzzz");
    edges.due("print(0) of 4220", more.print(0), 4000);
    edges.due("THE OUT of 4220", Check.out(more), tree(39, "Zzzzzzzz").substring(0, 4000));
    edges.due("read()", Check.read(more, "kind Z a+; net e = Z;"), 1);
    edges.due("out(3999) stays", more.out(3999), tree(39, "Zzzzzzzz").charAt(3999));
    edges.due("print(0) then", more.print(0), 1);
    edges.due("out(1)", more.out(1), HeadNets.NONE);
  }

  private void refusals() {
    edges.says("UNKNOWN.");
    edges.unchanged("print(1)", x -> x.print(1), HeadNets.UNKNOWN);
    edges.unchanged("print(-1)", x -> x.print(-1), HeadNets.UNKNOWN);
    edges.unchanged("print(8)", x -> x.print(8), HeadNets.UNKNOWN);
    for (int far : Edges.FAR_OUT) {
      edges.unchanged("print(" + far + ")", x -> x.print(far), HeadNets.UNKNOWN);
    }
    edges.due("print(0) without ENDS", Check.with("net;").print(0), HeadNets.UNKNOWN);
    HeadNets all = Check.with("net a = b, c = d, e = f, g = h;");
    edges.due("print(7) of 8", all.print(7), 2);
    edges.due("print(8) of 8", all.print(8), HeadNets.UNKNOWN);
    edges.due("THE OUT stays", Check.out(all), "#6");
  }

  private void bytes() {
    edges.says("Byte i of THE OUT;");
    HeadNets x = Check.with("kind A9z a+(a-); net A9z(p) = e;");
    edges.due("print(1)", x.print(1), 7);
    edges.dueRow("out", x::out, 'A', '9', 'z', '(', '#', '0', ')', HeadNets.NONE);

    edges.says("NONE: there is none such.");
    edges.due("out(0) of a new object", new HeadNets().out(0), HeadNets.NONE);
    edges.unchanged("out(-1)", object -> object.out(-1), HeadNets.NONE);
    edges.unchanged("out(1)", object -> object.out(1), HeadNets.NONE);
    HeadNets full = withTree(39, "Z");
    full.print(0);
    edges.due("out(3999) of 4000", full.out(3999), tree(39, "Z").charAt(3999));
    edges.due("out(4000) of 4000", full.out(4000), HeadNets.NONE);
    for (int far : Edges.FAR_OUT) {
      edges.due("out(" + far + ")", full.out(far), HeadNets.NONE);
    }
    // what an earlier, longer tree had behind is not there any more
    HeadNets shorter = Check.with("kind Z a+; kind Abcdefgh a+; net a = Z, b = Abcdefgh;");
    shorter.print(1);
    shorter.print(0);
    edges.due("out(1)", shorter.out(1), HeadNets.NONE);
    edges.due("out(7)", shorter.out(7), HeadNets.NONE);
  }
}
