import java.io.IOException;
import java.lang.reflect.Method;
import java.nio.charset.StandardCharsets;
import java.nio.file.Files;
import java.nio.file.Path;
import java.util.List;
import java.util.Map;
import java.util.TreeMap;
import java.util.regex.Matcher;
import java.util.regex.Pattern;

/** README.md holds: the answers of its example, a row for each call of the face, the ERRORS. Run from the root. */
public final class ReadmeTest {
  private static final Pattern EXAMPLE = Pattern.compile("kin\\.(\\w+)\\(([^)]*)\\); *// (-?\\d+).*");
  private static final Pattern ROW = Pattern.compile("\\| `(\\w+)\\(([^)]*)\\)` \\|.*\\| ?([A-Z, ]*?) ?\\|");
  private static final Pattern ERROR = Pattern.compile("\\| ([A-Z]+) \\| (-\\d+) \\| (\\d) \\|.*");

  /** The ERRORS of each promise of the document, in its order. */
  private static final String[] ERRORS = {
    "slate BEYOND, FULL", "slateIs BEYOND", "become BEYOND", "as BEYOND, KIND", "lay BEYOND, STATE", "lift BEYOND, STATE",
    "nail BEYOND", "sells BEYOND", "feed BEYOND, FULL", "text BEYOND", "untell BEYOND", "law BEYOND", "gale BEYOND",
    "years BEYOND, STATE", "loose BEYOND, STATE", "seed ", "dry BEYOND, NONE", "over BEYOND", "lifts BEYOND", "fast BEYOND",
    "best BEYOND, NONE", "rings ", "odds BEYOND", "fits BEYOND, NONE", "voice BEYOND, PARTED", "body NONE",
    "sheet BEYOND, STATE, BEYOND", "put BEYOND, NONE, BEYOND", "move BEYOND, NONE, KIND, BEYOND", "nailed BEYOND, NONE",
    "judge BEYOND, NONE", "image ", "restore NONE", "tell FULL", "check ", "count BEYOND", "told BEYOND",
  };

  private static int wrong = 0;

  private static void ask(boolean right, String what) {
    if (!right) {
      wrong++;
      System.out.println("README.md: " + what);
    }
  }

  private static Method method(String name) {
    for (Method m : SlateKin.class.getMethods()) {
      if (m.getName().equals(name) && m.getDeclaringClass() == SlateKin.class) return m;
    }
    return null;
  }

  private static String[] parts(String arguments) {
    return arguments.isBlank() ? new String[0] : arguments.split(", ");
  }

  private static void example(List<String> lines) throws ReflectiveOperationException {
    SlateKin kin = new SlateKin();
    int rows = 0;
    for (String line : lines) {
      Matcher row = EXAMPLE.matcher(line);
      if (!row.matches()) continue;
      rows++;
      Method m = method(row.group(1));
      ask(m != null, "no such call: " + line);
      if (m == null) continue;
      String[] words = parts(row.group(2));
      Object[] a = new Object[words.length];
      for (int i = 0; i < a.length; i++) {
        long v = Long.decode(words[i].replace("L", ""));
        a[i] = m.getParameterTypes()[i] == long.class ? (Object) v : (Object) (int) v;
      }
      String got = m.invoke(kin, a).toString();
      ask(got.equals(row.group(3)), line + " answered " + got);
    }
    ask(rows > 10, "the example has " + rows + " rows");
  }

  private static void calls(List<String> lines) {
    Map<String, String> told = new TreeMap<>();
    for (String line : lines) {
      Matcher row = ROW.matcher(line);
      if (!row.matches()) continue;
      Method m = method(row.group(1));
      ask(m != null && m.getParameterCount() == parts(row.group(2)).length, "not so in the face: " + line);
      ask(told.put(row.group(1), row.group(3)) == null, "told twice: " + line);
    }
    ask(told.size() == ERRORS.length, told.size() + " calls are told, there are " + ERRORS.length);
    for (String due : ERRORS) {
      int cut = due.indexOf(' ');
      String name = due.substring(0, cut);
      ask(due.substring(cut + 1).equals(told.get(name)), name + " tells " + told.get(name));
    }
  }

  private static void errors(List<String> lines) {
    int rows = 0;
    for (String line : lines) {
      Matcher row = ERROR.matcher(line);
      if (!row.matches()) continue;
      rows++;
      List<String> names = List.of("BEYOND", "NONE", "STATE", "FULL", "KIND", "PARTED");
      int k = names.indexOf(row.group(1)) + 1;
      ask(k == Integer.parseInt(row.group(3)) && Due.LOW - k == Integer.parseInt(row.group(2)), line);
    }
    ask(rows == 6, rows + " ERRORS are told");
  }

  /** Each test is named, so that one knows what .ci/run runs. */
  private static void tests(String text) throws IOException {
    try (var files = Files.list(Path.of("src/test/java"))) {
      files.map(f -> f.getFileName().toString().replace(".java", ""))
          .forEach(name -> ask(text.contains("`" + name), name + " is not told of"));
    }
  }

  public static void main(String[] args) throws Exception {
    Path file = Path.of("README.md");
    List<String> lines = Files.readAllLines(file, StandardCharsets.UTF_8);
    example(lines);
    calls(lines);
    errors(lines);
    tests(Files.readString(file, StandardCharsets.UTF_8));
    System.out.println(wrong == 0 ? "README.md holds" : wrong + " faults of README.md");
    if (wrong != 0) System.exit(1);
  }
}
