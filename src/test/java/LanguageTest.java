import java.io.IOException;
import java.lang.reflect.Constructor;
import java.lang.reflect.Field;
import java.lang.reflect.Method;
import java.lang.reflect.Modifier;
import java.nio.file.Files;
import java.nio.file.Path;
import java.util.ArrayList;
import java.util.List;
import java.util.Set;
import java.util.TreeSet;
import java.util.regex.Matcher;
import java.util.regex.Pattern;

/** The rules of LANGUAGE.md that can be seen from outside or by reading the file. */
public final class LanguageTest {
  private static final String SOURCE = "src/main/java/WantedTypes.java";
  private static final String[] FACE = {"int row(int,int,int)", "int set(int,int,int)", "int copy(int,int,int,int,int)",
      "int drop(int)", "int feed(int)", "int world()", "int fault()", "int hide(int,int)", "int cost(int,int)",
      "int above(int,int)", "int undo()", "int member(int,int)", "int type(int,int)", "int many(int,int)",
      "int cheapest(int)", "int listed(int,int,int)", "int word(int,int,int,int)", "int place(int,int,int)",
      "int had()", "int needed(int)", "int without(int,int)", "int share(int,int)", "int drawn(int,int,int,int)",
      "int image(int)", "int restore(int)", "int kind(int)", "int as(int,int)", "int ask(int,int)", "int trace(int)",
      "int count(int)", "int status()"};
  private static final Set<String> LIBRARY = Set.of("Arrays.fill", "Math.min", "Math.max", "System.arraycopy");
  private static int wrong;

  private static void hold(boolean held, String rule) {
    if (held) return;
    wrong++;
    System.out.println(rule);
  }

  public static void main(String[] args) throws IOException {
    face();
    nested();
    String text = Files.readString(Path.of(SOURCE));
    String code = withoutComments(text);
    words(code);
    library(code);
    lengths(code);
    System.out.println(wrong == 0 ? "the rules are kept" : wrong + " rules are broken");
    if (wrong != 0) System.exit(1);
  }

  private static void face() {
    Class<?> c = WantedTypes.class;
    hold(Modifier.isFinal(c.getModifiers()) && Modifier.isPublic(c.getModifiers()), "1: public and final");
    hold(c.getPackageName().isEmpty(), "no package");
    Set<String> due = new TreeSet<>(List.of(FACE));
    Set<String> names = new TreeSet<>();
    Set<String> open = new TreeSet<>();
    for (Method m : c.getDeclaredMethods()) {
      if (Modifier.isPrivate(m.getModifiers())) continue;
      open.add(told(m));
      names.add(m.getName());
    }
    hold(open.equals(due), "1: the face is " + open);
    privateNames(c, names);
    for (Class<?> inside : c.getDeclaredClasses()) privateNames(inside, names);
    Constructor<?>[] makers = c.getDeclaredConstructors();
    hold(makers.length == 1 && Modifier.isPublic(makers[0].getModifiers()) && makers[0].getParameterCount() == 0,
        "1: one public constructor");
    Set<String> shown = new TreeSet<>();
    for (Field f : c.getDeclaredFields()) if (!Modifier.isPrivate(f.getModifiers())) shown.add(f.getName());
    hold(shown.equals(Set.of("NONE", "BAD", "STATE", "FULL")), "1: fields " + shown);
  }

  private static void privateNames(Class<?> c, Set<String> open) {
    for (Method m : c.getDeclaredMethods()) {
      boolean twice = Modifier.isPrivate(m.getModifiers()) && open.contains(m.getName());
      hold(!twice, "1: a private method " + m.getName() + " of " + c);
    }
  }

  private static String told(Method m) {
    List<String> takes = new ArrayList<>();
    for (Class<?> p : m.getParameterTypes()) takes.add(p.getName());
    return m.getReturnType() + " " + m.getName() + "(" + String.join(",", takes) + ")";
  }

  private static void nested() {
    Class<?>[] inside = WantedTypes.class.getDeclaredClasses();
    hold(inside.length < 12, "11: some twelve classes");
    List<Class<?>> all = new ArrayList<>(List.of(inside));
    all.add(WantedTypes.class);
    for (Class<?> c : all) {
      hold(c == WantedTypes.class || Modifier.isStatic(c.getModifiers()), "2: static " + c);
      int fields = 0;
      for (Field f : c.getDeclaredFields()) {
        if (Modifier.isStatic(f.getModifiers())) hold(Modifier.isFinal(f.getModifiers()), "5: final " + f);
        else fields++;
      }
      hold(fields <= 20, "11: fields of " + c);
      for (Method m : c.getDeclaredMethods()) {
        hold(m.getParameterCount() <= 7, "11: parameters of " + m);
        hold(!m.isSynthetic(), "2: no lambda, no bridge: " + m);
      }
    }
  }

  private static String withoutComments(String text) {
    return text.replaceAll("(?s)/\\*.*?\\*/", " ").replaceAll("//[^\n]*", " ");
  }

  private static void words(String code) {
    String banned = "throw|throws|try|catch|finally|synchronized|assert|volatile|native|transient|yield|goto|new Thread"
        + "|equals|hashCode|toString|nanoTime|currentTimeMillis|Random|Exact|package|protected";
    Matcher m = Pattern.compile("\\b(" + banned + ")\\b").matcher(code);
    while (m.find()) hold(false, "6, 13: " + m.group());
    hold(!code.contains("->"), "2: ->");
    hold(!code.contains("::"), "2: ::");
    hold(!code.contains("\""), "10: no text is needed");
    Matcher imports = Pattern.compile("import [^;]*;").matcher(code);
    while (imports.find()) hold(imports.group().equals("import java.util.Arrays;"), "4: " + imports.group());
  }

  private static void library(String code) {
    Matcher m = Pattern.compile("\\b(Arrays|Math|System|Integer|Long|String|StringBuilder)\\.\\w+").matcher(code);
    while (m.find()) hold(LIBRARY.contains(m.group()), "4: " + m.group());
  }

  /** Methods are told by their indent: a head at four or eight blanks, an end at the same. */
  private static void lengths(String code) {
    String[] lines = code.split("\n", -1);
    int from = -1;
    int indent = 0;
    for (int i = 0; i < lines.length; i++) {
      Matcher head = Pattern.compile("^( {4}| {8})(public|private) [^=;]*\\) \\{$").matcher(lines[i]);
      if (head.find()) {
        from = i;
        indent = head.group(1).length();
      } else if (from >= 0 && lines[i].equals(" ".repeat(indent) + "}")) {
        hold(i - from <= 60, "11: the method at line " + (from + 1) + " is long");
        from = -1;
      }
      hold(lines[i].length() <= 120, "line " + (i + 1) + " is wide");
    }
  }
}
