import java.io.IOException;
import java.nio.file.Files;
import java.nio.file.Path;
import java.util.Arrays;
import java.util.LinkedHashMap;
import java.util.Map;
import java.util.regex.Matcher;
import java.util.regex.Pattern;

/**
 * The document by sections, with a mark on all that a test has quoted: so no sentence of it can be
 * forgotten, and no test can lean on words that are not there.
 */
final class Quotes {
  private static final Path DOCUMENT = Path.of("../shared/DOC.md");
  private static final Pattern HEADING = Pattern.compile("(?m)^(?:## (Promise \\d+|[^:\\n]+).*|={8} (\\d) )");

  private final Map<String, String> texts = new LinkedHashMap<>();
  private final Map<String, boolean[]> marks = new LinkedHashMap<>();

  Quotes() {
    if (!Files.isReadable(DOCUMENT)) {
      System.out.println("there is no " + DOCUMENT + ": quotes are not looked up");
      return;
    }
    String document = readDocument();
    Matcher heading = HEADING.matcher(document);
    String name = null;
    int from = 0;
    while (heading.find()) {
      put(name, document.substring(from, heading.start()));
      name = heading.group(2) == null ? heading.group(1) : "Section " + heading.group(2);
      from = heading.end();
    }
    put(name, document.substring(from));
    // a picture of the face, and what is free: nothing there is promised in words
    texts.remove("The public face");
    texts.remove("Not promised");
  }

  private static String readDocument() {
    try {
      return Files.readString(DOCUMENT);
    } catch (IOException e) {
      throw new IllegalStateException(e);
    }
  }

  private void put(String name, String text) {
    if (name != null) {
      String plain = oneLine(text.replace("```text", " ").replace("```", " ").replaceFirst("^\\s*`[^`]*`:", ""));
      texts.put(name, plain);
      marks.put(name, new boolean[plain.length()]);
    }
  }

  private static String oneLine(String text) {
    return text.replaceAll("\\s+", " ").trim();
  }

  /** Marks a quote; false, if the section does not have it. */
  boolean mark(String section, String quote) {
    if (texts.isEmpty()) {
      return true;
    }
    int at = texts.getOrDefault(section, "").indexOf(oneLine(quote));
    if (at < 0) {
      return false;
    }
    Arrays.fill(marks.get(section), at, at + oneLine(quote).length(), true);
    return true;
  }

  Iterable<String> sections() {
    return texts.keySet();
  }

  /** What nobody has quoted of a section, if there are words in it. */
  String leftOver(String section) {
    StringBuilder left = new StringBuilder();
    String text = texts.get(section);
    for (int i = 0; i < text.length(); i++) {
      left.append(marks.get(section)[i] ? ' ' : text.charAt(i));
    }
    return left.toString().matches(".*\\w.*") ? oneLine(left.toString()) : "";
  }
}
