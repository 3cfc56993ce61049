import java.lang.reflect.Constructor;
import java.lang.reflect.Field;
import java.lang.reflect.Method;
import java.lang.reflect.Modifier;
import java.nio.charset.StandardCharsets;
import java.nio.file.Files;
import java.nio.file.Path;
import java.util.List;
import java.util.Set;
import java.util.TreeSet;
import java.util.regex.Matcher;
import java.util.regex.Pattern;

/** The public face, and the rules of the language that words and compiled classes can show. Run from the root. */
public final class FaceTest {
  private static final String[] FACE = {
    "int slate(int,int,int,int)", "int slateIs(int,int)", "int become(int,int)", "int as(int,int)",
    "int lay(int,int,int)", "int lift(int)", "int nail(int,int)", "int sells(int)", "int feed(long,int)",
    "int text(int)", "int untell(int)", "int law(int,int,int,int)", "int gale(int)", "int years(int)",
    "int loose(int)", "int seed(int)", "long dry(int)", "int over(int,int)", "int lifts(int,int)",
    "int fast(int,int)", "int best(int,int)", "int rings()", "int odds(int,int)", "int fits(int,int)",
    "int voice(int,int,int)", "int body(int)", "int sheet(int,int,int)", "int put(int,int,int)",
    "int move(int,int,int,int,int)", "int nailed(int)", "int judge(int)", "int image()", "int restore()",
    "int tell(int)", "int check()", "int count(int)", "int told(int)",
  };
  private static final Pattern FORBIDDEN = Pattern.compile("\\b(throw|throws|try|catch|finally|synchronized|assert|"
      + "package|volatile|native|transient|protected|Object|System\\.(?!arraycopy)\\w+|hashCode|Math\\.\\w+Exact)\\b|::"
      + "|\\bimport (?!java\\.util\\.(ArrayList|Arrays|Iterator|List);)[^;]*|\\bstatic\\s*\\{");
  private static final Set<Class<?>> CONSTANTS =
      Set.of(int.class, long.class, boolean.class, char.class, String.class, int[].class, long[].class, char[].class,
          byte[].class);
  // "some sixty", "some twenty", "some twelve": a few more are let pass
  private static final int LONGEST = 66;
  private static final int MOST_PARAMETERS = 7;
  private static final int MOST_FIELDS = 24;
  private static final int MOST_CLASSES = 14;

  private static int wrong = 0;

  private static void ask(boolean right, String what) {
    if (!right) {
      wrong++;
      System.out.println(what);
    }
  }

  private static String told(Method m) {
    StringBuilder s = new StringBuilder(m.getReturnType().getSimpleName()).append(' ').append(m.getName()).append('(');
    for (int i = 0; i < m.getParameterCount(); i++) {
      s.append(i == 0 ? "" : ",").append(m.getParameterTypes()[i].getSimpleName());
    }
    return s.append(')').toString();
  }

  private static void face() {
    Set<String> due = new TreeSet<>(List.of(FACE));
    Set<String> got = new TreeSet<>();
    for (Method m : SlateKin.class.getDeclaredMethods()) {
      if (Modifier.isPublic(m.getModifiers())) got.add(told(m));
      else ask(isPrivate(m) && !m.getName().startsWith("lambda$"), "not to be in the face: " + m);
    }
    ask(due.equals(got), "the face is " + got);
    ask(Modifier.isFinal(SlateKin.class.getModifiers()), "the class is not final");
    ask(SlateKin.class.getDeclaredConstructors().length == 1, "more than one constructor");
    ask(SlateKin.class.getConstructors().length == 1, "no public constructor");
    for (Constructor<?> c : SlateKin.class.getConstructors()) {
      ask(c.getParameterCount() == 0, "the constructor takes something");
    }
    for (Field f : SlateKin.class.getDeclaredFields()) {
      ask(Modifier.isPrivate(f.getModifiers()), "not private: " + f);
    }
  }

  private static void classes() {
    Set<String> names = new TreeSet<>();
    for (String f : FACE) names.add(f.substring(f.indexOf(' ') + 1, f.indexOf('(')));
    Class<?>[] inside = SlateKin.class.getDeclaredClasses();
    ask(inside.length < MOST_CLASSES, "too many classes");
    fields(SlateKin.class);
    for (Class<?> c : inside) {
      int mods = c.getModifiers();
      ask(Modifier.isStatic(mods) && !Modifier.isPublic(mods) && !Modifier.isProtected(mods), "not inside: " + c);
      fields(c);
      for (Method m : c.getDeclaredMethods()) {
        ask(!isPrivate(m) || !names.contains(m.getName()), "bears the name of a public one: " + m);
        ask(!m.getName().startsWith("lambda$"), "a lambda: " + m);
        ask(m.getParameterCount() <= MOST_PARAMETERS, "too many parameters: " + m);
      }
    }
  }

  private static boolean isPrivate(Method m) {
    return Modifier.isPrivate(m.getModifiers());
  }

  private static boolean isConstant(Field f) {
    Class<?> type = f.getType().isArray() ? f.getType().getComponentType() : f.getType();
    return Modifier.isFinal(f.getModifiers()) && (CONSTANTS.contains(f.getType()) || type.isEnum());
  }

  private static void fields(Class<?> c) {
    int own = 0;
    for (Field f : c.getDeclaredFields()) {
      if (!Modifier.isStatic(f.getModifiers())) {
        own++;
        continue;
      }
      ask(isConstant(f), "no constant: " + f);
    }
    ask(own <= MOST_FIELDS, "too many fields: " + c);
  }

  private static void words(String source) {
    for (int i = 0; i < source.length(); i++) {
      ask(source.charAt(i) < 127, "a sign beyond 126 at " + i);
    }
    String bare = source.replaceAll("(?s)/\\*.*?\\*/", "").replaceAll("//[^\n]*", "");
    Matcher m = FORBIDDEN.matcher(bare);
    for (boolean found = m.find(); found; found = m.find()) ask(false, "forbidden: " + m.group());
  }

  /** A method's lines: from one that opens it to its closing brace, as this source is set. */
  private static void lengths(List<String> lines) {
    for (int i = 0; i < lines.size(); i++) {
      String line = lines.get(i);
      String lead = line.substring(0, line.length() - line.stripLeading().length());
      if (!line.endsWith(") {") || lead.length() > 4 || !line.matches("\\s+(public|private) .*")) continue;
      int end = i;
      while (end < lines.size() && !lines.get(end).equals(lead + "}")) end++;
      ask(end - i < LONGEST, "too long: " + line.strip());
    }
  }

  public static void main(String[] args) throws Exception {
    Path file = Path.of("src/main/java/SlateKin.java");
    face();
    classes();
    words(Files.readString(file, StandardCharsets.ISO_8859_1));
    lengths(Files.readAllLines(file, StandardCharsets.ISO_8859_1));
    System.out.println(wrong == 0 ? "the face is as due" : wrong + " faults of the face");
    if (wrong != 0) System.exit(1);
  }
}
