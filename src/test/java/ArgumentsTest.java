import java.util.ArrayList;
import java.util.List;
import java.util.Set;
import java.util.TreeSet;

/**
 * Each call with all its arguments drawn from the edges that the document names, every one with every other,
 * upon roofs of several kinds: the answers are those of NaiveKin, none throws, and each call tells the ERRORS
 * that its promise lists, each at least once, and no other.
 */
public final class ArgumentsTest {
  private static final int LEAST = Integer.MIN_VALUE;
  private static final int MOST = Integer.MAX_VALUE;
  private static final int MOST_CALLS = 500;

  // what each call takes, a list of edges for each argument; and the k of each of its ERRORS
  private static final String[] CALLS = {
    "slate km wide nails leant: 1 4", "slateIs slate what: 1", "become slate km: 1", "as slate kind: 1 5",
    "lay slate row place: 1 3", "lift slate: 1 3", "nail slate nails: 1", "sells bit: 1", "feed word bytes: 1 4",
    "text use: 1", "untell use: 1", "law use any any any: 1", "gale g: 1", "years n: 1 3", "loose n: 1 3", "seed any:",
    "dry part: 1 2", "over cell bit: 1", "lifts g bit: 1", "fast g bit: 1", "best slate bit: 1 2", "rings:",
    "odds cell bit: 1", "fits sheet bit: 1 2", "voice slate voice any: 1 6", "body i: 2", "sheet sheet bits count: 1 3",
    "put sheet at any: 1 2", "move sheet at sheet at many: 1 2 5", "nailed sheet: 1 2", "judge sheet: 1 2", "image:",
    "restore: 2", "tell any: 4", "check:", "count what: 1", "told k: 1",
  };

  private static final Set<String> ONLY_TELL = Set.of("slateIs", "as", "law", "dry", "over", "lifts", "fast", "best", "rings",
      "odds", "fits", "body", "judge", "count", "told");

  private static long[] edges(String of) {
    switch (of) {
      case "km": return new long[] {LEAST, -10, -1, 0, 9, 10, 31, 47, 52, 69, 70, MOST};
      case "wide": return new long[] {LEAST, -1, 0, 1, 2, 3, MOST};
      case "nails": return new long[] {LEAST, -1, 0, 9, 10, MOST};
      case "leant": return new long[] {LEAST, -2, -1, 0, 1, 8, 9, 10, MOST};
      case "slate": return new long[] {LEAST, -1, 0, 1, 2, 3, 4, 5, 6, 7, 8, 9, 10, 11, MOST};
      case "what": return new long[] {LEAST, -1, 0, 1, 2, 3, 4, 5, 6, 7, 8, 9, 10, MOST};
      case "kind": return new long[] {LEAST, -1, 0, 1, 2, 3, 4, 5, 6, 7, MOST};
      case "row": return new long[] {LEAST, -1, 0, 1, 2, 4, 5, 6, MOST};
      case "place": return new long[] {LEAST, -48, -1, 0, 1, 5, 6, 7, 8, 48, MOST};
      case "word": return new long[] {Long.MIN_VALUE, -1, 0, 0x31, 0x68, 0x672b682b6e2b6831L, 0x792a722a632a7939L, Long.MAX_VALUE};
      case "bytes": return new long[] {LEAST, -1, 0, 1, 2, 3, 7, 8, 9, MOST};
      case "bit": case "use": return new long[] {LEAST, -1, 0, 1, 2, MOST};
      case "part": case "voice": return new long[] {LEAST, -1, 0, 1, 2, 3, 4, MOST};
      case "any": return new long[] {LEAST, LEAST + 1, -65537, -256, -1, 0, 1, 2, 7, 99, 100, 255, 65536, MOST - 1, MOST};
      case "g": case "cell": case "i": return upTo(62);
      case "n": return new long[] {LEAST, -1, 0, 1, 2, 3, 19, 20, 21, 60, 61, MOST};
      case "sheet": return new long[] {LEAST, -1, 0, 1, 2, 3, 4, MOST};
      case "bits": return new long[] {LEAST, -8, -1, 0, 1, 7, 8, 9, 15, 16, 17, 31, 32, 33, 64, MOST};
      case "count": return new long[] {LEAST, -25, -1, 0, 1, 3, 23, 24, 25, MOST};
      case "at": case "many": return new long[] {LEAST, -1, 0, 1, 2, 3, 24, 25, MOST};
      case "k": return upTo(9);
      default: throw new IllegalArgumentException(of);
    }
  }

  private static long[] upTo(int most) {
    long[] all = new long[most + 6];
    for (int i = 0; i < most + 3; i++) all[i] = i - 2;
    all[most + 3] = LEAST;
    all[most + 4] = MOST;
    all[most + 5] = MOST - 1;
    return all;
  }

  private static void empty(Twins x) {
    x.due("count", 0);
  }

  /** Some slates of every kind, some of them LAID, some on another; texts, sheets, an IMAGE, numbers that wait. */
  private static void furnished(Twins x) {
    int[][] slates = {{5, 2, 2, -1}, {13, 1, 1, 0}, {24, 2, 3, -1}, {31, 1, 0, 2}, {47, 2, 4, -1}, {52, 1, 2, 0}, {66, 2, 5, -1}};
    for (int[] s : slates) x.due("slate", s[0], s[1], s[2], s[3]);
    int[][] cells = {{0, 0, 0}, {1, 1, 1}, {2, 0, 2}, {4, 1, 6}, {5, 1, 0}};
    for (int[] c : cells) x.due("lay", c[0], c[1], c[2]);
    x.due("sheet", 0, 8, 3);
    x.due("sheet", 1, 8, 24);
    x.due("sheet", 2, 16, 3);
    for (int i = 0; i < 3; i++) x.due("put", 1, i, i + 4);
    x.due("voice", 5, 2, 9);
    x.due("feed", 0x672d68, 3);
    x.due("text", 0);
    x.due("feed", 0x722b63, 3);
    x.due("years", 5);
    x.due("tell", 5);
    x.due("image");
  }

  /** As many SLATES, numbers that wait and bytes as may be, all CELLS DRY, one who MAY LIE nowhere; no IMAGE. */
  private static void full(Twins x) {
    for (int i = 0; i < 9; i++) {
      x.due("slate", 10 + i, 2, i, -1);
      x.due("lay", i, i / 3 * 2, i % 3 * 3);
    }
    for (int i = 0; i < 7; i++) x.due("feed", 0x2b312b312b312b31L, 8);
    x.due("feed", 0x31312b31L, 4);
    for (int i = 0; i < 24; i++) x.due("tell", 0);
    x.due("lift", 4);
    x.due("slate", 0, 1, 0, -1);
    x.due("lay", 9, 5, 3);
    x.due("become", 9, 19);
    x.due("lay", 4, 2, 3);
  }

  /** Two years ahead of the last one, with one who can't lie upon the one on whom it leant. */
  private static void old(Twins x) {
    x.due("slate", 0, 1, 9, -1);
    x.due("slate", 22, 1, 9, 0);
    x.due("slate", 44, 2, 9, -1);
    x.due("lay", 0, 5, 7);
    x.due("lay", 2, 4, 6);
    for (int i = 0; i < 166; i++) x.due("years", 60);
    x.due("years", 37);
    x.due("image");
  }

  private static Twins roof(int kind) {
    Twins x = new Twins();
    switch (kind) {
      case 0: empty(x); break;
      case 1: furnished(x); break;
      case 2: full(x); break;
      default: old(x); break;
    }
    return x;
  }

  private static int sum(int[] of) {
    int all = 0;
    for (int v : of) all += v;
    return all;
  }

  private static int wrong = 0;

  /** A call upon one kind of roof with every argument; a new roof where the one ahead is used up, or another by now. */
  private static void everyArgument(int kind, String name, List<long[]> edges, Set<Integer> errors) {
    int[] at = new int[edges.size()];
    Twins x = null;
    boolean more = true;
    while (more && wrong < 3) {
      if (x == null || x.calls() >= MOST_CALLS) x = roof(kind);
      long[] a = new long[at.length];
      for (int i = 0; i < at.length; i++) a[i] = edges.get(i)[at[i]];
      int[] before = x.naive.errors.clone();
      x.due(name, a);
      for (int k = 1; k <= 6; k++) if (x.naive.errors[k] > before[k]) errors.add(k);
      boolean refused = sum(x.naive.errors) > sum(before);
      for (int what = 0; what < 8 && refused; what++) x.due("count", what);
      if (x.wrong) wrong++;
      if (x.wrong || !refused && !ONLY_TELL.contains(name)) x = null;
      more = false;
      for (int i = 0; i < at.length && !more; i++) {
        at[i]++;
        more = at[i] < edges.get(i).length;
        if (!more) at[i] = 0;
      }
    }
  }

  private static void ask(String call) {
    int colon = call.indexOf(':');
    String[] words = call.substring(0, colon).split(" ");
    List<long[]> edges = new ArrayList<>();
    for (int i = 1; i < words.length; i++) edges.add(edges(words[i]));
    Set<Integer> errors = new TreeSet<>();
    // the last roof is dear to make, and only calls of few arguments ask for the year
    int kinds = edges.size() < 3 ? 4 : 3;
    for (int kind = 0; kind < kinds; kind++) everyArgument(kind, words[0], edges, errors);
    Set<Integer> due = new TreeSet<>();
    for (String k : call.substring(colon + 1).trim().split(" ")) if (!k.isEmpty()) due.add(Integer.parseInt(k));
    if (!errors.equals(due)) {
      wrong++;
      System.out.println(words[0] + " told the ERRORS " + errors + ", due are " + due);
    }
  }

  public static void main(String[] args) {
    for (String call : CALLS) ask(call);
    System.out.println(wrong == 0 ? "all arguments are answered as due" : wrong + " calls are not");
    if (wrong != 0) System.exit(1);
  }
}
