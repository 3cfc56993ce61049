import java.io.ByteArrayInputStream;
import java.io.DataInputStream;
import java.io.IOException;
import java.io.InputStream;
import java.util.ArrayDeque;
import java.util.ArrayList;
import java.util.Deque;
import java.util.List;
import java.util.Map;
import java.util.Set;
import java.util.TreeMap;
import java.util.TreeSet;
import java.util.regex.Pattern;

/** The rules of the language that the machine's own code shows: what the compiled classes call, make, catch and write. */
public final class LanguageTest {
  // rule 4, of what it lists
  private static final Pattern LIBRARY = Pattern.compile("java/lang/Object\\.<init>|java/lang/System\\.arraycopy"
      + "|java/lang/String\\.(length|charAt|isEmpty|equals|indexOf|substring|toCharArray|<init>)"
      + "|java/lang/StringBuilder\\.(<init>|append|charAt|setCharAt|setLength|deleteCharAt|reverse|length|toString)"
      + "|java/util/(Array)?List\\.(<init>|add|get|set|remove|size|isEmpty|clear|of)"
      + "|java/lang/(Integer|Long|Math)\\.(?!\\w+Exact$)\\w+|java/util/Arrays\\.(copyOf|copyOfRange|fill)");
  private static final int MOST_DEEP = 8;
  private static final int PUT_STATIC = 179;
  private static final int INVOKE_FIRST = 182;
  private static final int INVOKE_DYNAMIC = 186;
  private static final int ATHROW = 191;

  /** One method's machine code, as far as the rules ask. */
  private static final class Body {
    final Set<String> calls = new TreeSet<>();
    final Set<Integer> codes = new TreeSet<>();
    int handlers = 0;
  }

  private static final Map<String, Body> BODIES = new TreeMap<>();
  private static final Set<String> FACE = new TreeSet<>();
  private static int wrong = 0;

  private static void ask(boolean right, String what) {
    if (!right) {
      wrong++;
      System.out.println(what);
    }
  }

  // ---- reading a class file

  private static final class Pool {
    final Object[] of;
    final String[] words;

    Pool(DataInputStream in) throws IOException {
      int n = in.readUnsignedShort();
      of = new Object[n];
      words = new String[n];
      for (int i = 1; i < n; i++) {
        int tag = in.readUnsignedByte();
        switch (tag) {
          case 1: words[i] = in.readUTF(); break;
          case 7: case 8: case 16: of[i] = new int[] {in.readUnsignedShort()}; break;
          case 9: case 10: case 11: case 12: case 17: case 18:
            of[i] = new int[] {in.readUnsignedShort(), in.readUnsignedShort()};
            break;
          case 15: in.skipBytes(3); break;
          case 5: case 6:
            in.skipBytes(8);
            i++;
            break;
          default: in.skipBytes(4); break;
        }
      }
    }

    private int part(int at, int which) {
      return ((int[]) of[at])[which];
    }

    String nameOfClass(int at) {
      return words[part(at, 0)];
    }

    /** A method as owner.name and what it takes. */
    String method(int at) {
      int both = part(at, 1);
      return nameOfClass(part(at, 0)) + "." + words[part(both, 0)] + words[part(both, 1)];
    }
  }

  private static void read(String name) throws IOException {
    try (InputStream file = LanguageTest.class.getResourceAsStream(name + ".class")) {
      DataInputStream in = new DataInputStream(new ByteArrayInputStream(file.readAllBytes()));
      in.skipBytes(8);
      Pool pool = new Pool(in);
      in.skipBytes(6);
      in.skipBytes(2 * in.readUnsignedShort());
      int fields = in.readUnsignedShort();
      for (int i = 0; i < fields; i++) {
        in.skipBytes(6);
        skipAttributes(in);
      }
      int methods = in.readUnsignedShort();
      for (int i = 0; i < methods; i++) method(in, pool, name);
    }
  }

  private static void skipAttributes(DataInputStream in) throws IOException {
    int n = in.readUnsignedShort();
    for (int i = 0; i < n; i++) {
      in.skipBytes(2);
      in.skipBytes(in.readInt());
    }
  }

  private static void method(DataInputStream in, Pool pool, String owner) throws IOException {
    boolean isPublic = (in.readUnsignedShort() & 1) == 1;
    String name = owner + "." + pool.words[in.readUnsignedShort()] + pool.words[in.readUnsignedShort()];
    if (isPublic && owner.equals("SlateKin")) FACE.add(name);
    Body body = new Body();
    BODIES.put(name, body);
    int attributes = in.readUnsignedShort();
    for (int i = 0; i < attributes; i++) {
      boolean isCode = pool.words[in.readUnsignedShort()].equals("Code");
      int length = in.readInt();
      if (!isCode) {
        in.skipBytes(length);
        continue;
      }
      in.skipBytes(4);
      byte[] code = new byte[in.readInt()];
      in.readFully(code);
      steps(code, pool, body);
      body.handlers = in.readUnsignedShort();
      in.skipBytes(8 * body.handlers);
      skipAttributes(in);
    }
  }

  private static int wide(byte[] code, int at) {
    return (code[at] & 255) << 24 | (code[at + 1] & 255) << 16 | (code[at + 2] & 255) << 8 | code[at + 3] & 255;
  }

  private static void steps(byte[] code, Pool pool, Body body) {
    int at = 0;
    while (at < code.length) {
      int step = code[at] & 255;
      body.codes.add(step);
      if (step >= INVOKE_FIRST && step < INVOKE_DYNAMIC) {
        body.calls.add(pool.method((code[at + 1] & 255) << 8 | code[at + 2] & 255));
      }
      at += lengthOf(code, at, step);
    }
  }

  private static int lengthOf(byte[] code, int at, int step) {
    int table = (at + 4) / 4 * 4;
    if (step == 170) return table + 12 + 4 * (wide(code, table + 8) - wide(code, table + 4) + 1) - at;
    if (step == 171) return table + 8 + 8 * wide(code, table + 4) - at;
    if (step == 196) return (code[at + 1] & 255) == 132 ? 6 : 4;
    if (step == 185 || step == 186 || step == 200 || step == 201) return 5;
    if (step == 197) return 4;
    boolean two = step == 17 || step == 19 || step == 20 || step == 132 || step >= 153 && step <= 168
        || step >= 178 && step <= 184 || step == 187 || step == 189 || step == 192 || step == 193 || step >= 198;
    boolean one = step == 16 || step == 18 || step >= 21 && step <= 25 || step >= 54 && step <= 58 || step == 169 || step == 188;
    return two ? 3 : one ? 2 : 1;
  }

  // ---- the rules

  private static boolean isMaker(String method) {
    return method.contains(".<init>") || method.contains(".<clinit>");
  }

  private static void whatIsCalled() {
    for (Map.Entry<String, Body> e : BODIES.entrySet()) {
      for (String call : e.getValue().calls) {
        String bare = call.substring(0, call.indexOf('('));
        ask(call.startsWith("SlateKin") || LIBRARY.matcher(bare).matches(), "rule 4: " + e.getKey() + " calls " + call);
      }
      Body body = e.getValue();
      ask(!body.codes.contains(INVOKE_DYNAMIC), "rules 2, 10: a lambda, or texts joined by +, in " + e.getKey());
      ask(!body.codes.contains(ATHROW) && body.handlers == 0, "rule 6: it throws or catches: " + e.getKey());
      ask(!body.codes.contains(194) && !body.codes.contains(195), "rule 6: synchronized: " + e.getKey());
      ask(!body.codes.contains(PUT_STATIC) || e.getKey().contains(".<clinit>"), "rule 5: it writes a static field: " + e.getKey());
    }
  }

  private static void whatIsMade() {
    for (Map.Entry<String, Body> e : BODIES.entrySet()) {
      for (int making : new int[] {187, 188, 189, 197}) {
        boolean makes = e.getValue().codes.contains(making);
        ask(!makes || isMaker(e.getKey()), "README.md: nothing is made but in a constructor, but by " + e.getKey());
      }
    }
  }

  private static Set<String> reachedFrom(String method) {
    Set<String> reached = new TreeSet<>();
    Deque<String> waits = new ArrayDeque<>(List.of(method));
    while (!waits.isEmpty()) {
      for (String call : BODIES.get(waits.pop()).calls) {
        if (BODIES.containsKey(call) && reached.add(call)) waits.add(call);
      }
    }
    return reached;
  }

  /** The most calls that stand open at once below a method, those of a recursion not counted. */
  private static int depth(String method, Map<String, Set<String>> reached, Set<String> open) {
    int most = 0;
    open.add(method);
    for (String call : BODIES.get(method).calls) {
      if (BODIES.containsKey(call) && !open.contains(call)) most = Math.max(most, depth(call, reached, open));
    }
    open.remove(method);
    return most + (reached.get(method).contains(method) ? 0 : 1);
  }

  private static void howDeep() {
    Map<String, Set<String>> reached = new TreeMap<>();
    for (String method : BODIES.keySet()) reached.put(method, reachedFrom(method));
    for (String method : FACE) {
      int deep = depth(method, reached, new TreeSet<>());
      ask(deep <= MOST_DEEP, "rule 11: " + deep + " calls deep: " + method);
    }
    List<String> recursive = new ArrayList<>();
    for (String method : BODIES.keySet()) if (reached.get(method).contains(method)) recursive.add(method);
    for (String method : recursive) {
      // the depth comes as the last argument
      ask(method.contains("Reader.") && method.endsWith("I)Z") || method.contains("Choir.") && method.endsWith("I)I"),
          "rule 8: a recursion that carries no depth: " + method);
    }
    ask(!recursive.isEmpty(), "no recursion is seen, so this test sees nothing");
  }

  public static void main(String[] args) throws IOException {
    read("SlateKin");
    for (Class<?> c : SlateKin.class.getDeclaredClasses()) read(c.getName());
    ask(FACE.size() == 38, "the face has " + FACE.size() + " methods");
    whatIsCalled();
    whatIsMade();
    howDeep();
    System.out.println(wrong == 0 ? "the language is kept to" : wrong + " faults of the language");
    if (wrong != 0) System.exit(1);
  }
}
