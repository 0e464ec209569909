import java.util.function.IntUnaryOperator;
import java.util.function.ToIntFunction;

/** Asks the boundary cases that the document's sentences name, each behind the sentence itself. */
final class Edges {
  /** Numbers that no call takes where it takes a number of something. */
  static final int[] FAR_OUT = {Integer.MIN_VALUE, Integer.MIN_VALUE + 1, -1001, -2, Integer.MAX_VALUE - 1, Integer.MAX_VALUE};
  /** What THE TAPE of someObject() has. */
  static final String TAPE = "net ; net";

  private final Check check = new Check("EdgeTest");
  private final Quotes quotes = new Quotes();
  private String section = "";
  private String sentence = "";
  private int askedBefore = 0;

  void section(String name) {
    endSentence();
    section = name;
  }

  void promise(int number) {
    section("Promise " + number);
  }

  /** What is asked from here on is what these words of the section say. */
  void says(String quote) {
    endSentence();
    sentence = quote;
    check.due(section + " has the words: " + quote, quotes.mark(section, quote) ? 1 : 0, 1);
    askedBefore = check.askedSoFar();
  }

  /** Words without a boundary case. */
  void plain(String quote) {
    says(quote);
    sentence = "";
  }

  private void endSentence() {
    if (!sentence.isEmpty()) {
      check.due("whether anything was asked for: " + sentence, check.askedSoFar() > askedBefore ? 1 : 0, 1);
    }
    sentence = "";
  }

  private String told(String call) {
    return section + ", \"" + sentence + "\": " + call;
  }

  void due(String call, long got, long want) {
    check.due(told(call), got, want);
  }

  void due(String call, String got, String want) {
    check.due(told(call), got, want);
  }

  /** Due answers to one call with the numbers 0, 1, .. */
  void dueRow(String call, IntUnaryOperator asked, int... want) {
    for (int i = 0; i < want.length; i++) {
      due(call + " of " + i, asked.applyAsInt(i), want[i]);
    }
  }

  void good(int agents, String text) {
    HeadNets x = new HeadNets();
    due("read() of " + text, Check.read(x, text), agents);
    due("place() after " + text, x.place(), HeadNets.NONE);
  }

  /** A fault that is due where the mark ^ stands, which is not of the text. */
  void fault(int number, String marked) {
    int place = marked.indexOf('^');
    faultAt(number, place, marked.substring(0, place) + marked.substring(place + 1));
  }

  void faultAt(int number, int place, String text) {
    HeadNets x = new HeadNets();
    due("read() of " + text, Check.read(x, text), -10 - number);
    due("place() after " + text, x.place(), place);
  }

  /**
   * A call that answers a number on an object in whose every part something is, and leaves no trace:
   * another object, made likewise but not called, tells the same in all that follows.
   */
  void unchanged(String call, ToIntFunction<HeadNets> asked, int want) {
    HeadNets x = someObject();
    HeadNets untouched = someObject();
    due(call, asked.applyAsInt(x), want);
    due("all that is there behind " + call, portrait(x), portrait(untouched));
    due("place() behind " + call, x.place(), untouched.place());
    due("the tape and the draw behind " + call, future(x), future(untouched));
  }

  /**
   * Agents 0, 1 and 4, 5 are alive pairs, 2 and 3 a dead one; 6 is at the END. One step has been made,
   * shelf 1 has the net before it, and THE OUT has one byte.
   */
  static HeadNets someObject() {
    HeadNets x = Check.with("kind P a+; kind M a-; kind Q a+; kind R a+; rule P >< M : P = M, r = r; rule R >< M : R = M;"
        + "net P = M, Q = M, R = M, e = P, t = t;");
    x.keep(1);
    x.run(2, 1);
    x.print(0);
    x.draw(77);
    Check.feed(x, TAPE);
    return x;
  }

  /** All that calls tell of it but for place(); THE TAPE and THE DRAW cannot be looked at. */
  static String portrait(HeadNets x) {
    StringBuilder text = new StringBuilder();
    for (int what = 0; what <= 12; what++) {
      text.append(x.count(what)).append(' ');
    }
    for (int n = 0; n < 9; n++) {
      text.append(x.agent(n)).append(' ').append(x.wired(n, 0)).append(' ');
    }
    for (int i = 0; i < 4; i++) {
      text.append(x.end(i)).append(' ').append(x.pair(i)).append(' ').append(x.trace(i)).append(' ').append(x.like(i)).append(' ')
          .append(x.kind(i, 1)).append(' ').append(x.rule(i, 1)).append(' ').append(x.out(i)).append(' ');
    }
    return text.append(x.reached()).toString();
  }

  /** What it answers to calls that change it, by which shelves, THE DRAW and THE TAPE come out. */
  static String future(HeadNets x) {
    StringBuilder text = new StringBuilder();
    text.append(x.back(0)).append(' ').append(x.back(1)).append(' ');
    for (int i = 0; i < 8; i++) {
      text.append(x.run(3, 1)).append(' ').append(x.trace(0)).append(' ');
    }
    return text.append(x.read()).append(' ').append(x.place()).append(' ').append(x.feed(0, 0, 0, 0, 0)).toString();
  }

  /** All sentences have been gone through. */
  void close() {
    endSentence();
    for (String name : quotes.sections()) {
      check.due("what no test quotes of " + name, quotes.leftOver(name), "");
    }
    check.close();
  }
}
