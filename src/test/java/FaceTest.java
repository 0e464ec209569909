import java.io.IOException;
import java.lang.reflect.Constructor;
import java.lang.reflect.Field;
import java.lang.reflect.Method;
import java.lang.reflect.Modifier;
import java.nio.file.Files;
import java.nio.file.Path;
import java.util.ArrayList;
import java.util.Arrays;
import java.util.HashSet;
import java.util.List;
import java.util.Set;
import java.util.TreeSet;
import java.util.regex.Matcher;
import java.util.regex.Pattern;

/** The document's face, and those rules of LANGUAGE.md that can be looked up in the class and its text. */
public final class FaceTest {
  private static final Check CHECK = new Check("FaceTest");
  private static final String[] METHODS = {"feed 5", "cut 1", "read 0", "place 0", "count 1", "kind 2", "rule 2", "agent 1", "wired 2",
      "end 1", "pair 1", "step 1", "run 2", "draw 1", "trace 1", "keep 1", "back 1", "like 1", "reached 0", "print 1", "out 1"};

  public static void main(String[] args) throws IOException {
    constants();
    face();
    for (Class<?> inner : HeadNets.class.getDeclaredClasses()) {
      innerClass(inner);
    }
    CHECK.due("at most twelve classes", HeadNets.class.getDeclaredClasses().length <= 12 ? 1 : 0, 1);
    words(Files.readString(Path.of("src/main/java/HeadNets.java")));
    CHECK.close();
  }

  private static void constants() {
    CHECK.due("NONE", HeadNets.NONE, -1);
    CHECK.due("UNKNOWN", HeadNets.UNKNOWN, -1001);
    CHECK.due("OUTSIDE", HeadNets.OUTSIDE, -1002);
    CHECK.due("STATE", HeadNets.STATE, -1003);
    CHECK.due("FULL", HeadNets.FULL, -1004);
  }

  private static void face() {
    Set<String> visible = new TreeSet<>();
    for (Method method : HeadNets.class.getDeclaredMethods()) {
      if (!Modifier.isPrivate(method.getModifiers())) {
        boolean plain = Modifier.isPublic(method.getModifiers()) && !Modifier.isStatic(method.getModifiers())
            && method.getReturnType() == int.class && Arrays.stream(method.getParameterTypes()).allMatch(t -> t == int.class);
        visible.add(method.getName() + " " + method.getParameterCount() + (plain ? "" : " not as told"));
      }
    }
    CHECK.due("visible methods", visible.toString(), new TreeSet<>(List.of(METHODS)).toString());
    Set<String> fields = new TreeSet<>();
    for (Field field : HeadNets.class.getDeclaredFields()) {
      if (!Modifier.isPrivate(field.getModifiers())) {
        fields.add(field.getName());
      }
    }
    CHECK.due("visible fields", fields.toString(), "[FULL, NONE, OUTSIDE, STATE, UNKNOWN]");
    Constructor<?>[] constructors = HeadNets.class.getDeclaredConstructors();
    CHECK.due("constructors", constructors.length, 1);
    CHECK.due("its parameters", constructors[0].getParameterCount(), 0);
    CHECK.due("final", Modifier.isFinal(HeadNets.class.getModifiers()) ? 1 : 0, 1);
    members(HeadNets.class);
  }

  private static void innerClass(Class<?> inner) {
    String name = inner.getSimpleName();
    CHECK.due(name + " is static", Modifier.isStatic(inner.getModifiers()) ? 1 : 0, 1);
    CHECK.due(name + " is not public", Modifier.isPublic(inner.getModifiers()) ? 1 : 0, 0);
    CHECK.due(name + " has no class inside", inner.getDeclaredClasses().length, 0);
    members(inner);
    Set<String> faceNames = new HashSet<>();
    for (String method : METHODS) {
      faceNames.add(method.substring(0, method.indexOf(' ')));
    }
    for (Method method : inner.getDeclaredMethods()) {
      CHECK.due(name + "." + method.getName() + " bears a name of the face", faceNames.contains(method.getName()) ? 1 : 0, 0);
    }
  }

  private static void members(Class<?> owner) {
    int own = 0;
    for (Field field : owner.getDeclaredFields()) {
      boolean isStatic = Modifier.isStatic(field.getModifiers());
      own += isStatic ? 0 : 1;
      CHECK.due(owner.getSimpleName() + "." + field.getName() + " is static, not final",
          isStatic && !Modifier.isFinal(field.getModifiers()) ? 1 : 0, 0);
    }
    CHECK.due("fields of " + owner.getSimpleName(), own <= 20 ? 1 : 0, 1);
    for (Method method : owner.getDeclaredMethods()) {
      CHECK.due(method.getName() + " takes at most seven", method.getParameterCount() <= 7 ? 1 : 0, 1);
    }
  }

  private static void words(String source) {
    String code = source.replaceAll("(?s)/\\*.*?\\*/", " ").replaceAll("//.*", " ").replaceAll("\"[^\"]*\"", "\"\"");
    List<String> found = new ArrayList<>();
    Matcher matcher = Pattern.compile("\\b(throw|throws|try|catch|synchronized|assert|package|float|double|Thread|Random|Object"
        + "|native|volatile|equals|hashCode|toString|\\w+Exact)\\b|->|::").matcher(code);
    while (matcher.find()) {
      found.add(matcher.group());
    }
    CHECK.due("words that LANGUAGE.md rules out", found.toString(), "[]");
    Matcher imports = Pattern.compile("import ([\\w.]+);").matcher(code);
    while (imports.find()) {
      CHECK.due("import", imports.group(1), "java.util.Arrays");
    }
    Matcher library = Pattern.compile("\\b(Arrays|System|Math|Integer|Long)\\.(\\w+)").matcher(code);
    Set<String> allowed = Set.of("Arrays.fill", "System.arraycopy", "Math.min", "Math.max", "Math.floorMod");
    while (library.find()) {
      CHECK.due(library.group(), allowed.contains(library.group()) ? 1 : 0, 1);
    }
  }
}
