import java.lang.reflect.Field;
import java.lang.reflect.Method;
import java.lang.reflect.Modifier;
import java.nio.charset.StandardCharsets;
import java.nio.file.Files;
import java.nio.file.Path;
import java.util.ArrayList;
import java.util.List;
import java.util.Set;
import java.util.TreeSet;
import java.util.regex.Matcher;
import java.util.regex.Pattern;

// The public face of the document, and those rules of LANGUAGE.md that can be seen from outside.
// Run from the root of the project.
public final class FaceTest {
  private static final Path SOURCE = Path.of("src/main/java/BridgeService.java");
  private static final Path DOCUMENT = Path.of("../shared/DOC.md");
  private static int wrong = 0;

  public static void main(String[] args) throws Exception {
    face();
    constants();
    membersOf(BridgeService.class, faceNames());
    for (Class<?> inside : BridgeService.class.getDeclaredClasses()) {
      check(Modifier.isStatic(inside.getModifiers()), inside + " is static");
      check(!Modifier.isPublic(inside.getModifiers()) && !Modifier.isProtected(inside.getModifiers()), inside + " is not public");
      membersOf(inside, faceNames());
    }
    check(BridgeService.class.getDeclaredClasses().length <= 11, "twelve classes at most");
    text();
    System.out.println(wrong + " things are not as they should be");
    if (wrong != 0) System.exit(1);
  }

  private static void check(boolean is, String what) {
    if (is) return;
    wrong++;
    System.out.println("not so: " + what);
  }

  private static List<String> faceOfDocument() throws Exception {
    List<String> face = new ArrayList<>();
    Matcher m = Pattern.compile("(?m)^    public int (\\w+)\\((.*)\\);$").matcher(Files.readString(DOCUMENT));
    while (m.find()) {
      StringBuilder types = new StringBuilder();
      for (String p : m.group(2).split(", ")) if (!p.isEmpty()) types.append(p, 0, p.indexOf(' ')).append(' ');
      face.add(m.group(1) + " " + types);
    }
    return face;
  }

  private static Set<String> faceNames() throws Exception {
    Set<String> names = new TreeSet<>();
    for (String f : faceOfDocument()) names.add(f.substring(0, f.indexOf(' ')));
    return names;
  }

  private static void face() throws Exception {
    Set<String> due = new TreeSet<>(faceOfDocument());
    check(due.size() == 52, "the document's face has 52 methods, but " + due.size());
    Set<String> is = new TreeSet<>();
    for (Method m : BridgeService.class.getDeclaredMethods()) {
      if (!Modifier.isPublic(m.getModifiers())) continue;
      StringBuilder types = new StringBuilder();
      for (Class<?> p : m.getParameterTypes()) types.append(p.getName()).append(' ');
      is.add(m.getName() + " " + types);
      check(m.getReturnType() == int.class && !Modifier.isStatic(m.getModifiers()), m + " answers an int");
    }
    check(is.equals(due), "the face is " + due + ", but " + is);
    check(Modifier.isFinal(BridgeService.class.getModifiers()), "the class is final");
    check(BridgeService.class.getDeclaredConstructors().length == 1, "one constructor");
    check(BridgeService.class.getConstructors().length == 1, "a public one");
  }

  private static void constants() throws Exception {
    String[] names = {"BAD", "FULL", "NONE", "STATE"};
    for (int i = 0; i < names.length; i++) {
      check(BridgeService.class.getField(names[i]).getInt(null) == -1 - i, names[i] + " is " + (-1 - i));
    }
    check(BridgeService.class.getFields().length == 4, "four public constants");
  }

  private static void membersOf(Class<?> c, Set<String> face) {
    int fields = 0;
    for (Field f : c.getDeclaredFields()) {
      int m = f.getModifiers();
      if (f.isSynthetic()) continue;
      if (!Modifier.isStatic(m)) fields++;
      check(!Modifier.isStatic(m) || Modifier.isFinal(m), f + " is final, being static");
      check(Modifier.isPrivate(m) || c == BridgeService.class && Modifier.isPublic(m), f + " is private");
    }
    check(fields <= 20, c + " has some twenty fields");
    for (Method m : c.getDeclaredMethods()) {
      if (m.isSynthetic()) continue;
      boolean isFace = c == BridgeService.class && Modifier.isPublic(m.getModifiers());
      check(isFace || !face.contains(m.getName()), m + " bears no public name");
      check(isFace || c != BridgeService.class || Modifier.isPrivate(m.getModifiers()), m + " is private");
      check(m.getParameterCount() <= 7, m + " has seven parameters at most");
    }
  }

  private static void text() throws Exception {
    byte[] bytes = Files.readAllBytes(SOURCE);
    for (byte b : bytes) check(b > 0 && b < 127, "signs are 1 to 126");
    String text = new String(bytes, StandardCharsets.US_ASCII);
    String code = text.replaceAll("//.*", "").replaceAll("\"[^\"\n]*\"", "\"\"");
    for (String word : new String[] {"throw", "throws", "try", "catch", "finally", "synchronized", "assert", "import", "package", "equals", "hashCode",
        "float", "double", "Object", "System.out", "Exact", "native", "volatile", "static \\{", "->", "::", "\\+ \"", "\" \\+"}) {
      boolean isWord = word.matches("\\w+");
      check(!Pattern.compile(isWord ? "\\b" + word + "\\b" : word).matcher(code).find(), "there is no " + word);
    }
    int start = 0;
    int line = 0;
    for (String l : text.split("\n")) {
      line++;
      if (l.matches(" {2,4}[\\w\\[\\]<> ]+\\(.*\\) \\{")) start = line;
      if (l.matches(" {2,4}\\}") && start > 0) {
        check(line - start < 60, "the method at line " + start + " is short");
        start = 0;
      }
      // what is made is made with the object
      boolean makes = l.contains("new ") && !l.trim().startsWith("//");
      boolean isField = l.matches(" {2,4}private final [\\w\\[\\]]+ \\w+ = new .*;");
      check(!makes || isField || l.contains("[i] = new "), "line " + line + " makes nothing in a call");
    }
  }
}
