/** Promises 1 to 5: a new object, feed, cut, read, place. */
public final class TextTest {
  private static final Check CHECK = new Check("TextTest");

  public static void main(String[] args) {
    newObject();
    feeding();
    cutting();
    reading();
    faultsChangeNothing();
    CHECK.close();
  }

  private static void newObject() {
    HeadNets x = new HeadNets();
    for (int what = 0; what <= 12; what++) {
      CHECK.due("count(" + what + ")", x.count(what), 0);
    }
    for (int s = 0; s < 4; s++) {
      CHECK.due("back(" + s + ")", x.back(s), HeadNets.STATE);
      CHECK.due("like(" + s + ")", x.like(s), HeadNets.STATE);
    }
    CHECK.due("place()", x.place(), HeadNets.NONE);
    CHECK.due("out(0)", x.out(0), HeadNets.NONE);
    CHECK.due("trace(0)", x.trace(0), HeadNets.NONE);
    CHECK.due("agent(0)", x.agent(0), HeadNets.UNKNOWN);
    CHECK.due("cut(0)", x.cut(0), 0);
    CHECK.due("reached()", x.reached(), 0);
  }

  private static void feeding() {
    HeadNets x = new HeadNets();
    for (int i = 1; i <= 200; i++) {
      CHECK.due("feed " + i, x.feed(0, 0, 0, 0, 0), 20 * i);
    }
    CHECK.due("feed to 4020", x.feed(0, 0, 0, 0, 0), HeadNets.FULL);
    CHECK.due("cut(3981)", x.cut(3981), 19);
    CHECK.due("feed to 4001", x.feed(0, 0, 0, 0, 0), HeadNets.FULL);
    CHECK.due("cut(3980)", x.cut(3980), 1);
    CHECK.due("feed to 4000", x.feed(0, 0, 0, 0, 0), 4000);
    HeadNets y = new HeadNets();
    // highest byte first: "net " and then bytes from 128 on, which are no token
    CHECK.due("feed", y.feed(0x6e657420, -1, -1, -1, -1), 20);
    CHECK.due("read()", y.read(), -11);
    CHECK.due("place()", y.place(), 4);
  }

  private static void cutting() {
    HeadNets x = new HeadNets();
    CHECK.due("cut(1)", x.cut(1), HeadNets.OUTSIDE);
    CHECK.due("cut(-1)", x.cut(-1), HeadNets.OUTSIDE);
    x.feed(0x6e65743b, 0, 0, 0, 0);
    CHECK.due("cut(21)", x.cut(21), HeadNets.OUTSIDE);
    CHECK.due("cut(20)", x.cut(20), 0);
    CHECK.due("cut(4)", x.cut(4), 16);
    CHECK.due("read() of what was kept", x.read(), 0);
    CHECK.due("cut(0) after read()", x.cut(0), 0);
    CHECK.due("cut(1) after read()", x.cut(1), HeadNets.OUTSIDE);
  }

  private static void reading() {
    HeadNets x = Check.with("kind A a+; kind E a-; kind B a-(a+); rule A >< B(x) : x = A; net A = B(r), q = q;");
    CHECK.due("count(0)", x.count(0), 3);
    CHECK.due("count(1)", x.count(1), 1);
    CHECK.due("count(2)", x.count(2), 2);
    CHECK.due("count(3)", x.count(3), 1);
    CHECK.due("count(4)", x.count(4), 1);
    x.keep(0);
    CHECK.due("run", x.run(2, 5), 1);
    CHECK.due("count(8)", x.count(8), 1);
    CHECK.due("count(10)", x.count(10), 1);
    x.print(0);
    CHECK.due("count(12)", x.count(12), 1);
    CHECK.due("read() of nothing", x.read(), 0);
    for (int what = 0; what <= 11; what++) {
      CHECK.due("count(" + what + ") after read()", x.count(what), 0);
    }
    CHECK.due("count(12) after read(): THE OUT stays", x.count(12), 1);
    CHECK.due("trace(0) after read()", x.trace(0), HeadNets.NONE);
    CHECK.due("back(0) after read()", x.back(0), HeadNets.STATE);
    CHECK.due("like(0) after read()", x.like(0), HeadNets.STATE);
  }

  private static void faultsChangeNothing() {
    HeadNets x = Check.with("kind A a+; kind E a-; rule A >< E; net A = E, s = A;");
    x.keep(1);
    CHECK.due("run", x.run(0, 9), 1);
    CHECK.due("read() with a fault", Check.read(x, "kind A a+; net A = x, B"), -13);
    CHECK.due("place()", x.place(), 22);
    CHECK.due("cut(1): the tape is empty", x.cut(1), HeadNets.OUTSIDE);
    CHECK.due("count(0)", x.count(0), 2);
    CHECK.due("count(1)", x.count(1), 1);
    CHECK.due("count(2)", x.count(2), 1);
    CHECK.due("count(3)", x.count(3), 1);
    CHECK.due("count(8)", x.count(8), 1);
    CHECK.due("trace(0)", x.trace(0), 1);
    CHECK.due("back(1)", x.back(1), 3);
    CHECK.due("read() without one", Check.read(x, " \n net \n; "), 0);
    CHECK.due("place()", x.place(), HeadNets.NONE);
    CHECK.due("read() of nothing", x.read(), 0);
  }
}
