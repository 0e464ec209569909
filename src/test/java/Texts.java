/** Parts of texts that tests are made of. */
final class Texts {
  private Texts() {
  }

  /** A part n times; # in it is the number of the time. */
  static String repeat(int n, String part) {
    StringBuilder text = new StringBuilder();
    for (int i = 0; i < n; i++) {
      text.append(part.replace("#", "" + i));
    }
    return text.toString();
  }

  /** Likewise, with commas between. */
  static String joined(int n, String part) {
    String text = repeat(n, part + ", ");
    return n == 0 ? "" : text.substring(0, text.length() - 2);
  }

  /** What is inmost, within n agents A that have one port each. */
  static String nested(int n, String inmost) {
    return "A(".repeat(n) + inmost + ")".repeat(n);
  }

  /** Kinds K0, K1, .. in a row with sort a and sign +. */
  static String kinds(int n) {
    return repeat(n, "kind K# a+; ");
  }

  /** The first n rules for two of 16 such kinds; there are 136 of them. */
  static String rules(int n) {
    StringBuilder text = new StringBuilder();
    int rules = 0;
    for (int a = 0; a < 16; a++) {
      for (int b = a; b < 16 && rules < n; b++) {
        text.append("rule K").append(a).append("><K").append(b).append(';');
        rules++;
      }
    }
    return text.toString();
  }

  /** A text with blanks behind it, as long as a length. */
  static String padded(String text, int length) {
    return text + " ".repeat(length - text.length());
  }
}
