import java.io.IOException;
import java.lang.reflect.Constructor;
import java.lang.reflect.Field;
import java.lang.reflect.Method;
import java.lang.reflect.Modifier;
import java.nio.file.Files;
import java.nio.file.Path;
import java.util.TreeSet;
import java.util.regex.Matcher;
import java.util.regex.Pattern;

/** The face and, as far as a plain search can tell, the rules of ../shared/LANGUAGE.md. Run it in the project's folder. */
public final class LanguageTest {
  private static int wrong = 0;

  private static final String[] FACE = {
    "int type(long,int)", "int begin()", "int length(int)", "int told(int,int,int)", "int place(int,int,int)",
    "int put(int,int)", "int strike(int,int,int)", "int shape(int,int,int,int)", "int remark(int,int,int)",
    "int move(int,int,int,int)", "int settle(int,boolean)", "int cut(int,int)", "int change(int,int)",
    "int span(int,int,boolean)", "int look(int,int)", "int clash(int,int)", "int clashes()", "int compare(int)",
    "int clean()", "int count(int)",
  };

  private static final String[] FORBIDDEN = {
    "throw", "throws", "try", "catch", "finally", "synchronized", "assert", "import", "package", "volatile", "native",
    "transient", "lambda", "var", "yield", "System\\.(?!arraycopy)", "\\w+Exact", "hashCode", "toString", "Thread", "Random",
    "new \\w+\\(\\)\\s*\\{",
  };

  private static void fault(String what) { wrong++; System.out.println(what); }

  public static void main(String[] args) throws IOException {
    members();
    constants();
    nested();
    source(Files.readString(Path.of("src/main/java/RedlineDesk.java")));
    System.out.println(wrong == 0 ? "LanguageTest: kept to" : "LanguageTest: " + wrong + " wrong");
    if (wrong != 0) System.exit(1);
  }

  private static String signature(Method m) {
    StringBuilder out = new StringBuilder(m.getReturnType().getSimpleName() + " " + m.getName() + "(");
    String comma = "";
    for (Class<?> c : m.getParameterTypes()) { out.append(comma).append(c.getSimpleName()); comma = ","; }
    return out.append(")").toString();
  }

  private static void members() {
    TreeSet<String> due = new TreeSet<>(java.util.List.of(FACE)), found = new TreeSet<>(), names = new TreeSet<>();
    for (String f : FACE) names.add(f.substring(4, f.indexOf('(')));
    for (Method m : RedlineDesk.class.getDeclaredMethods()) {
      if (Modifier.isPublic(m.getModifiers())) found.add(signature(m));
      else if (!Modifier.isPrivate(m.getModifiers()) && !m.isSynthetic()) fault("neither public nor private: " + m);
      else if (names.contains(m.getName())) fault("a private method bears a public name: " + m);
      if (m.getParameterCount() > 7) fault("too many parameters: " + m);
    }
    if (!found.equals(due)) fault("the face is " + found);
    Constructor<?>[] made = RedlineDesk.class.getDeclaredConstructors();
    if (made.length != 1 || !Modifier.isPublic(made[0].getModifiers()) || made[0].getParameterCount() != 0) fault("constructors");
    int is = RedlineDesk.class.getModifiers();
    if (!Modifier.isPublic(is) || !Modifier.isFinal(is)) fault("the class is not public and final");
  }

  private static void constants() {
    TreeSet<String> open = new TreeSet<>();
    for (Field f : RedlineDesk.class.getDeclaredFields()) {
      if (Modifier.isStatic(f.getModifiers()) && !Modifier.isFinal(f.getModifiers())) fault("static state: " + f);
      if (!Modifier.isPrivate(f.getModifiers())) open.add(f.getName() + (Modifier.isPublic(f.getModifiers()) ? "" : "?"));
    }
    if (!open.equals(new TreeSet<>(java.util.List.of("BAD", "NOT", "FULL", "CAST")))) fault("open fields: " + open);
    int[] due = {-1, -2, -3, -13};
    int[] got = {RedlineDesk.BAD, RedlineDesk.NOT, RedlineDesk.FULL, RedlineDesk.CAST};
    if (!java.util.Arrays.equals(due, got)) fault("the constants are " + java.util.Arrays.toString(got));
  }

  private static void nested() {
    Class<?>[] all = RedlineDesk.class.getDeclaredClasses();
    if (all.length > 11) fault("more than twelve classes");
    for (Class<?> c : all) {
      if (!Modifier.isStatic(c.getModifiers())) fault("not static: " + c);
      if (Modifier.isPublic(c.getModifiers()) || Modifier.isProtected(c.getModifiers())) fault("too open: " + c);
      if (c.getDeclaredFields().length > 20) fault("more than twenty fields: " + c);
      for (Field f : c.getDeclaredFields()) {
        if (Modifier.isStatic(f.getModifiers()) && !Modifier.isFinal(f.getModifiers())) fault("static state: " + f);
      }
    }
  }

  private static void source(String whole) {
    String code = whole.replaceAll("(?s)/\\*.*?\\*/", "").replaceAll("//[^\n]*", "");
    for (String f : FORBIDDEN) {
      Matcher m = Pattern.compile("(?<![\\w.])" + f + (f.endsWith("\\{") || f.endsWith(")") ? "" : "\\b")).matcher(code);
      if (m.find()) fault("forbidden: " + m.group());
    }
    if (code.contains("->") || code.contains("::") || code.contains("\"")) fault("an arrow, a reference or a text");
    int length = 0;
    for (String line : code.split("\n")) {
      length = line.matches("    }|        }") ? 0 : length + 1;
      if (length > 60) { fault("a method of more than sixty lines, about: " + line); length = 0; }
    }
  }
}
