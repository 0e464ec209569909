import java.io.ByteArrayOutputStream;
import java.io.IOException;
import java.io.PrintStream;
import java.lang.reflect.Method;
import java.lang.reflect.Modifier;
import java.net.URL;
import java.net.URLClassLoader;
import java.nio.file.Files;
import java.nio.file.Path;
import java.util.regex.Matcher;
import java.util.regex.Pattern;
import java.util.stream.Stream;
import javax.tools.ToolProvider;

/** README.md: its program compiles and prints what is told there, and its table has every call of the face. */
public final class ReadmeTest {
  private static final Check CHECK = new Check("ReadmeTest");

  public static void main(String[] args) throws Exception {
    String readme = Files.readString(Path.of("README.md"));
    if (ToolProvider.getSystemJavaCompiler() == null) {
      System.out.println("this java has no compiler in it: README.md's program is not tried");
    } else {
      CHECK.due("what the program prints", printedBy(block(readme, "java")), block(readme, "text"));
    }
    for (Method method : HeadNets.class.getDeclaredMethods()) {
      if (Modifier.isPublic(method.getModifiers())) {
        boolean told = Pattern.compile("(?m)^\\|.*`" + method.getName() + "`").matcher(readme).find();
        CHECK.due("whether the table has " + method.getName(), told ? 1 : 0, 1);
      }
    }
    CHECK.close();
  }

  /** The first block of a language. */
  private static String block(String readme, String language) {
    Matcher matcher = Pattern.compile("(?s)```" + language + "\n(.*?)```").matcher(readme);
    return matcher.find() ? matcher.group(1) : "";
  }

  private static String printedBy(String program) throws Exception {
    Path folder = Files.createTempDirectory("readme");
    PrintStream console = System.out;
    ByteArrayOutputStream printed = new ByteArrayOutputStream();
    try {
      Path file = Files.writeString(folder.resolve("Sum.java"), program);
      int failed = ToolProvider.getSystemJavaCompiler()
          .run(null, null, null, "-cp", System.getProperty("java.class.path"), "-d", folder.toString(), file.toString());
      CHECK.due("compiling the program", failed, 0);
      if (failed != 0) {
        return "";
      }
      try (URLClassLoader loader = new URLClassLoader(new URL[] {folder.toUri().toURL()})) {
        System.setOut(new PrintStream(printed, true));
        loader.loadClass("Sum").getMethod("main", String[].class).invoke(null, (Object) new String[0]);
      }
    } finally {
      System.setOut(console);
      remove(folder);
    }
    return printed.toString().replace("\r\n", "\n");
  }

  private static void remove(Path folder) throws IOException {
    try (Stream<Path> files = Files.list(folder)) {
      for (Path file : files.toList()) {
        Files.delete(file);
      }
    }
    Files.delete(folder);
  }
}
