/** Promises 4 and 5 with section 2: which texts have which fault, and where. */
public final class FaultTest {
  private static final Check CHECK = new Check("FaultTest");
  private static final String AB = "kind A a+(a-); kind B a-(a+); kind Z a+; kind E a-; ";

  public static void main(String[] args) {
    tokens();
    places();
    kinds();
    limits();
    brackets();
    rules();
    wires();
    CHECK.close();
  }

  private static void tokens() {
    CHECK.good(0, "");
    CHECK.good(0, "\n \n");
    CHECK.good(0, "net abcdefg8=x1;");
    CHECK.fault(1, "net ^abcdefgh9 = x;");
    CHECK.fault(1, "net ^9a = x;");
    CHECK.fault(1, "net ^aB = x;");
    CHECK.good(0, "kind Abcdefg8 a+;");
    CHECK.good(0, "kind ABcD1 a+;");
    CHECK.fault(1, "kind ^Abcdefgh9 a+;");
    CHECK.fault(1, "^\t");
    CHECK.fault(1, "net x = y^\r;");
    CHECK.fault(1, "net x ^_ y;");
    CHECK.fault(1, AB + "rule A(x) ^> < B(y);");
    CHECK.fault(1, AB + "rule A(x) ^>>< B(y);");
    CHECK.fault(1, AB + "rule A(x) ^< B(y);");
    CHECK.good(0, "kind A a+;kind B a-;rule A><B;net;");
    CHECK.fault(1, "net ^" + (char) 200 + ";");
    CHECK.fault(1, "net;^" + (char) 0);
  }

  private static void places() {
    CHECK.fault(2, "^x");
    CHECK.fault(2, "^;");
    CHECK.fault(2, "^A");
    CHECK.fault(2, "net^");
    CHECK.fault(2, "net  ^");
    CHECK.fault(2, "net x^");
    CHECK.fault(2, "net x = y^");
    CHECK.fault(2, "net x = y ^net;");
    CHECK.fault(2, "net x = y,^;");
    CHECK.fault(2, "net x ^, y;");
    CHECK.fault(2, "net x = y ^= z;");
    CHECK.good(0, "net net = kind, rule = kind;");
    CHECK.good(0, "net kind = rule;");
    CHECK.fault(2, "kind ^a a+;");
    CHECK.fault(2, "kind A ^A+;");
    CHECK.fault(2, "kind A ^ab+;");
    CHECK.fault(2, "kind A ^a1+;");
    CHECK.fault(2, "kind A a ^;");
    CHECK.fault(2, "kind A a+ ^,");
    CHECK.fault(2, "kind A a+(^);");
    CHECK.fault(2, "kind A a+(b- ^;");
    CHECK.fault(2, "kind A a+(b-,^);");
    CHECK.fault(2, "kind A a+(b-)^");
    CHECK.fault(2, AB + "rule ^x >< A;");
    CHECK.fault(2, AB + "rule A(^);");
    CHECK.fault(2, AB + "rule A(x ^;");
    CHECK.fault(2, AB + "rule A(x) ^: x = x;");
    CHECK.fault(2, AB + "rule A(^A) >< B(y);");
    CHECK.fault(2, AB + "rule A(x) >< B(y) : ^;");
    CHECK.fault(2, AB + "rule A(x) >< B(y) ^= x;");
    CHECK.fault(2, AB + "rule A(x) >< B(y) : x ^;");
    CHECK.fault(2, AB + "net A(^) = x;");
    CHECK.fault(2, AB + "net A(x ^= x;");
    CHECK.fault(2, "net x = ^(y);");
    CHECK.fault(2, "net x^(y) = z;");
  }

  private static void kinds() {
    CHECK.fault(3, "kind A a+; kind ^A b+;");
    CHECK.fault(3, "rule ^A >< B;");
    CHECK.fault(3, AB + "rule A(x) >< ^C : ");
    CHECK.fault(3, "net ^A = x; kind A a+;");
    CHECK.fault(3, AB + "net A(^Q) = x;");
    HeadNets x = Check.with(AB);
    CHECK.due("KINDS of an earlier text are none", Check.read(x, "net Z = x;"), -13);
    CHECK.good(0, "kind A a+(a+,a+,a+,a+);");
    CHECK.good(0, "kind A z-;");
  }

  private static void limits() {
    String kinds16 = Texts.kinds(16);
    CHECK.good(0, kinds16);
    CHECK.fault(4, kinds16 + "kind ^L a+;");
    CHECK.fault(3, kinds16 + "kind ^K1 a+;");
    CHECK.fault(2, kinds16 + "kind ^l a+;");
    CHECK.fault(4, "kind A a+(a+,a+,a+,a+,^a+);");
    CHECK.fault(2, "kind A a+(a+,a+,a+,a+,^aa+);");
    ruleLimit();
    CHECK.good(0, AB + "rule Z >< E : " + Texts.joined(6, "Z = E") + ";");
    CHECK.fault(4, AB + "rule Z >< E : " + Texts.joined(6, "Z = E") + ", ^Z = E;");
    CHECK.fault(3, AB + "rule Z >< E : " + Texts.joined(6, "Z = E") + ", ^Q = E;");
    CHECK.good(200, AB + "net " + Texts.joined(100, "Z = E") + ";");
    CHECK.fault(4, AB + "net " + Texts.joined(100, "Z = E") + ", x = ^E;");
    CHECK.good(0, "net " + Texts.joined(60, "n# = n#") + ";");
    CHECK.fault(4, "net " + Texts.joined(60, "n# = n#") + ", ^m = n1;");
    CHECK.fault(7, "net " + Texts.joined(60, "n# = n#") + ", n1 = n2^;");
    CHECK.good(0, "kind Z a+; kind E a-; rule Z >< E : " + Texts.joined(60, "n# = n#") + ";");
    CHECK.fault(4, "kind Z a+; kind E a-; rule Z >< E : " + Texts.joined(60, "n# = n#") + ", ^m = m;");
    CHECK.good(0, AB + "rule A(x) >< B(y) : x = y, " + Texts.joined(58, "n# = n#") + ";");
    CHECK.fault(4, AB + "rule A(x) >< B(y) : x = y, " + Texts.joined(58, "n# = n#") + ", ^m = m;");
    CHECK.fault(4, AB + "rule A(" + Texts.joined(60, "n#") + ",^m) >< B(y);");
    CHECK.good(12, AB + "net x = " + Texts.nested(11, "Z") + ";");
    CHECK.good(11, AB + "net x = " + Texts.nested(11, "y") + ";");
    CHECK.fault(4, AB + "net x = " + Texts.nested(12, "^Z") + ";");
    CHECK.fault(4, AB + "net x = " + Texts.nested(12, "^y") + ";");
    CHECK.fault(3, AB + "net x = " + Texts.nested(12, "^Q") + ";");
    CHECK.fault(2, AB + "net x = " + Texts.nested(12, "^") + ";");
    CHECK.fault(4, "net ; ^net;");
    CHECK.fault(4, "net x = y; kind A a+; ^net");
  }

  private static void ruleLimit() {
    String text = Texts.kinds(16) + Texts.rules(60);
    CHECK.good(0, text);
    CHECK.fault(4, text + "^rule K9 >< K9;");
    CHECK.fault(4, text + "^rule ;");
  }

  private static void brackets() {
    CHECK.fault(5, AB + "net ^A = x;");
    CHECK.fault(5, AB + "net ^A(x, y) = z;");
    CHECK.fault(5, AB + "net ^Z(x) = z;");
    CHECK.fault(5, AB + "net x = ^A");
    CHECK.fault(5, AB + "net x = ^A $");
    CHECK.fault(5, AB + "net ^Z(x) $");
    CHECK.fault(1, AB + "net Z(x ^$");
    CHECK.fault(2, AB + "net Z(x ^");
    CHECK.fault(3, AB + "net Z(x, ^Q)");
    CHECK.fault(5, AB + "net Z(^A, Q) = x");
    CHECK.fault(5, AB + "net Z(^A, $");
    CHECK.fault(5, AB + "net A(x, ^B(y, z)) = x");
    CHECK.fault(5, AB + "net x = ^Z(a, b, c, d, e, f, g);");
    CHECK.fault(5, AB + "rule ^A >< B(x) : x = x;");
    CHECK.fault(5, AB + "rule ^A(x, y) >< Q");
    CHECK.fault(5, AB + "rule A(x) >< ^B;");
    CHECK.fault(5, AB + "rule A(x) >< ^B(y, z, a, b, c);");
    CHECK.fault(5, AB + "rule Z >< E : ^Z(x) = E;");
  }

  private static void rules() {
    CHECK.good(0, AB + "rule A(x) >< B(y) : x = y; rule A(x) >< E : x = E; rule B(x) >< Z : Z = x;");
    CHECK.fault(6, AB + "rule Z >< E; rule Z >< E^;");
    CHECK.fault(6, AB + "rule Z >< E; rule E >< Z : x = x^;");
    CHECK.fault(6, AB + "rule Z >< E; rule E >< Z : x = Z^;");
    CHECK.good(0, AB + "rule Z >< Z; rule E >< E; rule Z >< E;");
    CHECK.fault(6, AB + "rule Z >< Z; rule Z >< Z^;");
    CHECK.fault(6, AB + "rule A(x) >< B(y)^;");
    CHECK.fault(6, AB + "rule A(x) >< B(y) : x = Z, y = q^;");
    CHECK.fault(6, AB + "rule A(x) >< B(y) : x = y, x = x^;");
    CHECK.fault(6, AB + "rule A(x) >< B(x) : x = Z^;");
    CHECK.good(0, AB + "rule A(x) >< B(x);");
    CHECK.fault(6, AB + "rule Z >< E : x = y, y = y^;");
  }

  private static void wires() {
    CHECK.fault(7, AB + "net Z = Z^;");
    CHECK.fault(7, AB + "net x = y, Z = x, y = Z^;");
    CHECK.good(2, AB + "net x = y, Z = x, y = E;");
    CHECK.good(2, AB + "net Z = x, Z = y;");
    CHECK.fault(7, "kind A a+; kind B b-; net A = B^;");
    CHECK.fault(7, "net x = y, x = z, x = w^;");
    CHECK.fault(7, "net x = x, x = x^;");
    CHECK.good(0, "net a = b, c = d, e = f, g = h;");
    CHECK.fault(7, "net a = b, c = d, e = f, g = h, i = j^;");
    CHECK.fault(7, "kind Z a+; net a = b, c = d, e = f, g = h, i = Z^;");
    CHECK.fault(7, AB + "net A(Z) = Z, x = A(A(x))^;");
    CHECK.fault(7, AB + "net A(E) = x^;");
    CHECK.good(1, AB + "net A(x) = x;");
    CHECK.fault(7, AB + "rule A(x) >< B(y) : x = Z, y = E^;");
    CHECK.good(0, AB + "rule A(x) >< B(y) : x = E, y = Z;");
    CHECK.good(0, AB + "rule A(x) >< B(y) : x = q, q = E, y = w, w = v, v = Z;");
    CHECK.fault(7, AB + "rule A(x) >< A(y) : x = y^;");
    CHECK.good(0, AB + "rule A(x) >< A(y) : x = E, y = E;");
    CHECK.fault(7, AB + "rule A(x) >< A(x)^;");
    CHECK.fault(7, "kind A a+(b-); kind B a-(c+); rule A(x) >< B(x)^;");
    CHECK.fault(7, AB + "rule Z >< E : Z = q, q = Z^;");
    CHECK.good(0, "kind A a+; kind B b+; rule A >< B;");
  }
}
