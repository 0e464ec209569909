/** What the tests share: asking answers, and turning texts into calls. */
final class Check {
  private final String name;
  private int asked = 0;
  private int wrong = 0;

  Check(String name) {
    this.name = name;
  }

  void due(String call, long got, long want) {
    asked++;
    if (got != want) {
      wrong++;
      System.out.println(name + ": " + call + " answered " + got + ", due is " + want);
    }
  }

  void due(String call, String got, String want) {
    asked++;
    if (!got.equals(want)) {
      wrong++;
      System.out.println(name + ": " + call + " answered \"" + got + "\", due is \"" + want + "\"");
    }
  }

  /** Ends the test: exit code 1 if an answer was wrong. */
  void close() {
    System.out.println(name + ": " + asked + " answers, " + wrong + " not as due");
    if (wrong != 0 || asked == 0) {
      System.exit(1);
    }
  }

  int askedSoFar() {
    return asked;
  }

  int wrongSoFar() {
    return wrong;
  }

  /** The five numbers that feed the bytes of a text from a place on, with blanks behind its end. */
  static int[] numbersAt(String text, int from) {
    int[] numbers = new int[5];
    for (int i = 0; i < 20; i++) {
      int b = from + i < text.length() ? text.charAt(from + i) & 255 : ' ';
      numbers[i / 4] = numbers[i / 4] << 8 | b;
    }
    return numbers;
  }

  /** Feeds a text just as long as it is to an empty tape. */
  static void feed(HeadNets x, String text) {
    for (int from = 0; from < text.length(); from += 20) {
      int[] n = numbersAt(text, from);
      x.feed(n[0], n[1], n[2], n[3], n[4]);
    }
    x.cut(text.length());
  }

  static int read(HeadNets x, String text) {
    feed(x, text);
    return x.read();
  }

  static HeadNets with(String text) {
    HeadNets x = new HeadNets();
    int answer = read(x, text);
    if (answer < 0) {
      System.out.println("the test's own text has fault " + answer + " at " + x.place() + ": " + text);
      System.exit(1);
    }
    return x;
  }

  static String out(HeadNets x) {
    StringBuilder text = new StringBuilder();
    for (int i = 0; x.out(i) != HeadNets.NONE; i++) {
      text.append((char) x.out(i));
    }
    return text.toString();
  }

  static String tree(HeadNets x, int e) {
    int bytes = x.print(e);
    return bytes < 0 ? "refused " + bytes : out(x);
  }

  /** A fault that is due, with its place: "A >< ^B" has it at the B. */
  void fault(int number, String marked) {
    int place = marked.indexOf('^');
    String text = marked.substring(0, place) + marked.substring(place + 1);
    HeadNets x = new HeadNets();
    due("read() of " + text, read(x, text), -10 - number);
    due("place() after " + text, x.place(), place);
  }

  void good(int agents, String text) {
    HeadNets x = new HeadNets();
    due("read() of " + text, read(x, text), agents);
    due("place() after " + text, x.place(), HeadNets.NONE);
  }
}
