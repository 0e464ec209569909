/** Promises 21 and 22: print, out. */
public final class OutTest {
  private static final Check CHECK = new Check("OutTest");

  public static void main(String[] args) {
    trees();
    refusals();
    deepTrees();
    longTrees();
    CHECK.close();
  }

  private static void trees() {
    HeadNets x = Check.with("kind Zero n+; kind S n+(n-); kind Pair8888 n+(n-, n-, n+); kind M n-(n+); "
        + "net a = S(S(Zero)), b = c, d = Pair8888(S(S(Zero)), Zero, e), M(f) = S(g), h = Zero;");
    String[] due = {"S(S(Zero))", "#2", "#1", "Pair8888(S(S(Zero)),Zero,#4)", "@", "@", "@", "Zero"};
    for (int e = 0; e < due.length; e++) {
      CHECK.due("print(" + e + ")", x.print(e), due[e].length());
      CHECK.due("the tree of " + e, Check.out(x), due[e]);
      CHECK.due("count(12)", x.count(12), due[e].length());
      CHECK.due("out(-1)", x.out(-1), HeadNets.NONE);
      CHECK.due("out beyond", x.out(due[e].length()), HeadNets.NONE);
    }
    HeadNets circle = Check.with("kind D a+(a-, a-); net x = D(y, z), z = D(w, v), v = v2, v2 = D(u, t);");
    CHECK.due("nested", Check.tree(circle, 0), "D(#1,D(#2,D(#3,#4)))");
    HeadNets at = Check.with("kind D a+(a-, a+, a-); net x = D(y, y, z);");
    CHECK.due("its own ports", Check.tree(at, 0), "D(@,@,#1)");
  }

  private static void refusals() {
    HeadNets x = Check.with("kind Z a+; net e = Z;");
    CHECK.due("print(0)", x.print(0), 1);
    CHECK.due("print(1)", x.print(1), HeadNets.UNKNOWN);
    CHECK.due("print(-1)", x.print(-1), HeadNets.UNKNOWN);
    CHECK.due("a refusal leaves THE OUT", x.out(0), 'Z');
    CHECK.due("out(1)", x.out(1), HeadNets.NONE);
    CHECK.due("out(MIN)", x.out(Integer.MIN_VALUE), HeadNets.NONE);
  }

  private static void deepTrees() {
    for (int length : new int[] {1, 39, 40, 41, 55}) {
      String text = chainText(length);
      HeadNets x = Check.with(text);
      String due = length < 40 ? "S(".repeat(length) + "Z" + ")".repeat(length)
          : "S(".repeat(40) + "~" + ")".repeat(40);
      CHECK.due("a chain of " + length, Check.tree(x, 0), due);
    }
  }

  private static String chainText(int length) {
    StringBuilder text = new StringBuilder("kind S a+(a-); kind Z a+; net e = S(c1)");
    for (int i = 1; i < length; i++) {
      text.append(", c").append(i).append(" = S(c").append(i + 1).append(")");
    }
    return text + ", c" + length + " = Z;";
  }

  private static void longTrees() {
    HeadNets x = Check.with("kind Node4444 a+(a-, a-, a-, a-); kind Leaf1111 a+; kind Go a-(a+); "
        + "rule Leaf1111 >< Go(r) : r = Node4444(Leaf1111, Leaf1111, Leaf1111, y), Leaf1111 = Go(y); net Leaf1111 = Go(e);");
    CHECK.due("steps", x.run(0, 3000), 99);
    CHECK.due("crowded", x.count(11), 1);
    String due = "Node4444(Leaf1111,Leaf1111,Leaf1111,".repeat(39) + "Node4444(~,~,~,~" + ")".repeat(40);
    CHECK.due("a tree cut off in its depth", Check.tree(x, 0), due);
    String chain = "S(S(S(S(S(S(S(S(S(S(";
    HeadNets full = Check.with("kind T1234567 a+(a-, a-, a-, a-); kind L1234567 a+(b-, b+, b-, b+); kind F a-(a+); "
        + "kind S a+(a-); kind Z a+; rule Z >< F(r) : r = Z; "
        + "rule S(x) >< F(r) : x = F(s), r = T1234567(T1234567(L1234567(a, a, b, b), L1234567(c, c, d, d), "
        + "L1234567(e, e, f, f), L1234567(g, g, h, h)), L1234567(i, i, j, j), L1234567(k, k, l, l), s);"
        + "net " + chain + "t)))))))))) = F(e), t = " + chain + "u)))))))))), u = " + chain + "v)))))))))), v = S(S(S(S(S(S(S(S(Z))))))));");
    CHECK.due("steps", full.run(1, 3000), 39);
    CHECK.due("count(2)", full.count(2), 8 * 38 + 1);
    String leaf = "L1234567(@,@,@,@),";
    String four = "T1234567(" + (leaf.repeat(4) + ")").replace(",)", ")");
    String tree = ("T1234567(" + four + "," + leaf + leaf).repeat(38) + "Z" + ")".repeat(38);
    CHECK.due("the tree is longer", tree.length() > 4000 ? 1 : 0, 1);
    CHECK.due("print(0)", full.print(0), 4000);
    CHECK.due("count(12)", full.count(12), 4000);
    CHECK.due("its first bytes", Check.out(full), tree.substring(0, 4000));
    CHECK.due("out(4000)", full.out(4000), HeadNets.NONE);
  }
}
