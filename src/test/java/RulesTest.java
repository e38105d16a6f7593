import java.io.IOException;
import java.lang.reflect.Constructor;
import java.lang.reflect.Field;
import java.lang.reflect.Method;
import java.lang.reflect.Modifier;
import java.nio.file.Files;
import java.nio.file.Path;
import java.util.Arrays;
import java.util.Set;
import java.util.TreeSet;
import java.util.regex.Matcher;
import java.util.regex.Pattern;

/** The public face, and what of LANGUAGE.md can be seen without reading the code by eye. */
public final class RulesTest {
  private static final String[] FACE = {
    "int floor(int,int,int,int)", "int ofSort(int,int)", "int ofSign(int)", "int lay(int,int)",
    "int sign(int,int)", "int plan(int,int,int,int,int)", "int line(int,int,int,int)",
    "int soon(int,int,int,int,int)", "int order(int)", "int tree(int)", "long odds(int,int,int)",
    "int reading(int,int)", "int back(int)", "int counts(int)", "int kinds(int)", "int speeds(int)",
    "int sheet(int,int,int)", "int lose(int)", "int put(int,int,int)", "long cell(int,int,int)",
    "int copy(int,int,int,int,int)", "int tell(int)", "int drop(int)", "int as(int,int)",
    "int trace()", "int fault()", "int many(int)"};
  private static final String[] FORBIDDEN = {
    "throw", "throws", "try", "catch", "finally", "synchronized", "assert", "import", "equals",
    "hashCode", "toString", "record", "Object", "System.out", "nanoTime", "Random", "Exact",
    "var", "native", "volatile", "transient", "protected", "package"};

  public static void main(String[] args) throws IOException {
    methods();
    constants();
    membersInside();
    words();
    Checks.end("RulesTest");
  }

  private static void methods() {
    Set<String> found = new TreeSet<>();
    Set<String> publicNames = new TreeSet<>();
    for (Method m : FloorType.class.getDeclaredMethods()) {
      if (Modifier.isPublic(m.getModifiers())) {
        found.add(signature(m));
        publicNames.add(m.getName());
        Checks.holds(m + " is no static", !Modifier.isStatic(m.getModifiers()));
      }
    }
    Checks.holds("the face " + found, found.equals(new TreeSet<>(Arrays.asList(FACE))));
    for (Method m : FloorType.class.getDeclaredMethods()) {
      boolean open = Modifier.isPublic(m.getModifiers());
      Checks.holds(m + " is public or private", open || Modifier.isPrivate(m.getModifiers()));
      Checks.holds(m + " bears no public name", open || !publicNames.contains(m.getName()));
    }
    for (Class<?> inside : FloorType.class.getDeclaredClasses()) {
      for (Method m : inside.getDeclaredMethods()) {
        Checks.holds(m + " bears no public name", !publicNames.contains(m.getName()));
      }
    }
    Constructor<?>[] made = FloorType.class.getDeclaredConstructors();
    Checks.holds("one public constructor without parameters", made.length == 1
        && Modifier.isPublic(made[0].getModifiers()) && made[0].getParameterCount() == 0);
    Checks.holds("public final", Modifier.isFinal(FloorType.class.getModifiers())
        && Modifier.isPublic(FloorType.class.getModifiers()));
  }

  private static String signature(Method m) {
    StringBuilder text = new StringBuilder(m.getReturnType().getName()).append(' ').append(m.getName()).append('(');
    for (int i = 0; i < m.getParameterCount(); i++) {
      text.append(i > 0 ? "," : "").append(m.getParameterTypes()[i].getName());
    }
    return text.append(')').toString();
  }

  private static void constants() {
    Checks.due("UNKNOWN", FloorType.UNKNOWN, -1);
    Checks.due("OUTSIDE", FloorType.OUTSIDE, -2);
    Checks.due("STATE", FloorType.STATE, -3);
    Checks.due("FULL", FloorType.FULL, -4);
    Checks.due("NONE", FloorType.NONE, -9);
    Checks.due("LOST", FloorType.LOST, Long.MIN_VALUE);
    int open = 0;
    for (Field f : FloorType.class.getDeclaredFields()) {
      boolean isPublic = Modifier.isPublic(f.getModifiers());
      open += isPublic ? 1 : 0;
      Checks.holds(f + " is public or private", isPublic || Modifier.isPrivate(f.getModifiers()));
    }
    Checks.due("public constants", open, 6);
  }

  private static void membersInside() {
    Class<?>[] inside = FloorType.class.getDeclaredClasses();
    Checks.holds("twelve classes at most", inside.length <= 11);
    for (Class<?> c : inside) {
      Checks.holds(c + " is static", Modifier.isStatic(c.getModifiers()));
      int fields = 0;
      for (Field f : c.getDeclaredFields()) {
        boolean isStatic = Modifier.isStatic(f.getModifiers());
        fields += isStatic ? 0 : 1;
        Checks.holds(f + " static is final", !isStatic || Modifier.isFinal(f.getModifiers()));
      }
      Checks.holds(c + " has twenty fields at most", fields <= 20);
    }
  }

  private static void words() throws IOException {
    String code = withoutComments(Files.readString(Path.of("src/main/java/FloorType.java")));
    for (String word : FORBIDDEN) {
      Matcher at = Pattern.compile("\\b" + Pattern.quote(word) + "\\b").matcher(code);
      Checks.holds("no " + word, !at.find());
    }
    Checks.holds("no lambda", !code.contains("->"));
    Checks.holds("no method reference", !code.contains("::"));
    Checks.holds("no array in a method", !Pattern.compile("^ {8,}.*\\bnew \\w+\\[", Pattern.MULTILINE)
        .matcher(code.replaceAll("(?m)^.*\\bfinal int\\[\\].*$", "")).find());
  }

  private static String withoutComments(String code) {
    return code.replaceAll("(?s)/\\*.*?\\*/", "").replaceAll("//[^\n]*", "");
  }
}
