import java.util.Random;

/** Long runs of drawn calls: every answer of the program against that of NaiveKin. */
public final class RandomRunsTest {
  private static final String[] CALLS = {
    "slate/4", "slate/4", "slateIs/2", "become/2", "as/2", "lay/3", "lay/3", "lay/3", "lay/3", "lift/1", "nail/2",
    "sells/1", "feed/2", "text/1", "untell/1", "law/4", "gale/1", "years/1", "loose/1", "seed/1", "dry/1", "over/2",
    "lifts/2", "fast/2", "best/2", "rings/0", "odds/2", "fits/2", "voice/3", "voice/3", "body/1", "sheet/3", "put/3",
    "put/3", "move/5", "nailed/1", "judge/1", "image/0", "restore/0", "tell/1", "check/0", "count/1", "told/1",
    "TEXT", "TEXT", "WHOLE", "ROWS", "CELLS", "AGES",
  };

  private final Random random;
  private final Twins twins = new Twins();
  private final NaiveKin naive = twins.naive;

  private RandomRunsTest(long seed) {
    random = new Random(seed);
  }

  private long due(String name, long... a) {
    return twins.due(name, a);
  }

  private int pick(int... of) {
    return of[random.nextInt(of.length)];
  }

  /** Mostly least .. most, now and then beside it, seldom anything. */
  private int near(int least, int most) {
    int r = random.nextInt(60);
    if (r == 0) return least - 1;
    if (r == 1) return most + 1;
    if (r == 2) return random.nextInt();
    if (r == 3) return pick(Integer.MIN_VALUE, Integer.MAX_VALUE, -1, 0);
    return most < least ? least : least + random.nextInt(most - least + 1);
  }

  private int aSlate() {
    return near(0, naive.now.slates.size() - 1);
  }

  private int aNumber() {
    return random.nextInt(4) == 0 ? random.nextInt() : random.nextInt(50) - 9;
  }

  private int aSheetNumber() {
    return near(-1, 9);
  }

  private long word(String text) {
    long word = 0;
    for (int i = text.length() - 1; i >= 0; i--) word = word << 8 | text.charAt(i);
    return word;
  }

  private void feedAll(String text) {
    for (int i = 0; i < text.length(); i += 8) {
      String part = text.substring(i, Math.min(text.length(), i + 8));
      due("feed", word(part), part.length());
    }
  }

  private String aText(int use, int depth) {
    int r = random.nextInt(depth > 4 ? 6 : 10);
    if (r < 3) return "" + NaiveKin.NAMES[use].charAt(random.nextInt(3));
    if (r < 6) return "" + random.nextInt(pick(3, 30, 10000));
    if (r == 6) return "!" + aText(use, 9);
    if (r == 7) return "(" + aText(use, depth + 1) + ")";
    return aText(use, depth + 1) + "|&<=>+-*/%".charAt(random.nextInt(10)) + aText(use, depth + 1);
  }

  private String spoiled(String text) {
    if (random.nextInt(3) != 0 || text.isEmpty()) return text;
    StringBuilder t = new StringBuilder(text);
    int at = random.nextInt(t.length());
    char c = random.nextInt(3) == 0 ? (char) random.nextInt(256) : "hngrcy0123456789!()|&<=>+-*/% ".charAt(random.nextInt(30));
    int r = random.nextInt(4);
    if (r == 0) t.deleteCharAt(at);
    if (r == 1) t.setCharAt(at, c);
    if (r == 2) t.insert(at, c);
    if (r == 3) t.setLength(at);
    return t.toString();
  }

  private void oneText() {
    int use = random.nextInt(2);
    String text = spoiled(aText(use, 0));
    feedAll(text);
    if (due("text", use) == 1) {
      for (int i = 0; i < 4; i++) due("law", use, aNumber(), aNumber(), aNumber());
    }
    if (random.nextInt(2) == 0) due("untell", use);
  }

  /** A roof full of slates, so that much lies upon much. */
  private void whole() {
    for (int i = 0; i < 10; i++) {
      due("slate", random.nextInt(70), 1 + random.nextInt(2), random.nextInt(5), random.nextInt(3) == 0 ? i - 1 : -1);
    }
    for (int i = 0; i < 40; i++) {
      due("lay", random.nextInt(10), random.nextInt(4), random.nextInt(8));
    }
  }

  private void rowsOnASheet() {
    int g = random.nextInt(41);
    int s = random.nextInt(4);
    int n = random.nextInt(8);
    due("sheet", s, pick(8, 16, 32), n);
    int[] rows = new int[8];
    for (int c : NaiveKin.dryOf(naive.left(g))) rows[c / 8]++;
    for (int i = 0; i < n; i++) due("put", s, i, rows[i]);
    due("fits", s, 0);
    due("fits", s, 1);
  }

  private void cellsOnASheet() {
    int s = random.nextInt(4);
    int n = random.nextInt(12);
    due("sheet", s, pick(8, 16, 32), n);
    for (int i = 0; i < n; i++) {
      NaiveKin.One one = i < naive.now.slates.size() ? naive.now.slates.get(i) : null;
      int cell = one == null || one.row < 0 ? -1 : one.row * 8 + one.place;
      due("put", s, i, random.nextInt(12) == 0 ? near(-1, 48) : cell);
    }
    due("judge", s);
  }

  private void ages() {
    int n = random.nextInt(12);
    for (int i = 0; i < n; i++) {
      int age = i < naive.now.slates.size() ? naive.now.slates.get(i).age : 0;
      due("tell", random.nextInt(12) == 0 ? aNumber() : age);
    }
    due("check");
  }

  private void step() {
    String call = CALLS[random.nextInt(CALLS.length)];
    int cut = call.indexOf('/');
    String name = cut < 0 ? call : call.substring(0, cut);
    switch (name) {
      case "TEXT": oneText(); break;
      case "WHOLE": if (random.nextInt(8) == 0) whole(); break;
      case "ROWS": rowsOnASheet(); break;
      case "CELLS": cellsOnASheet(); break;
      case "AGES": ages(); break;
      case "slate": due(name, near(0, 69), near(1, 2), near(0, 9), near(-1, naive.now.slates.size() - 1)); break;
      case "slateIs": due(name, aSlate(), near(0, 9)); break;
      case "become": due(name, aSlate(), near(0, 69)); break;
      case "as": due(name, aSlate(), near(0, 6)); break;
      case "lay": due(name, aSlate(), near(0, 5), near(0, 7)); break;
      case "lift": due(name, aSlate()); break;
      case "nail": due(name, aSlate(), near(0, 9)); break;
      case "sells": due(name, near(0, 1)); break;
      case "feed": due(name, random.nextLong(), near(1, 8)); break;
      case "text": case "untell": due(name, near(0, 1)); break;
      case "law": due(name, near(0, 1), aNumber(), aNumber(), aNumber()); break;
      case "gale": due(name, near(0, random.nextInt(41))); break;
      case "years": due(name, near(1, random.nextInt(4) == 0 ? 60 : 3)); break;
      case "loose": due(name, near(1, random.nextInt(4) == 0 ? 20 : 3)); break;
      case "seed": due(name, random.nextInt()); break;
      case "dry": due(name, near(0, 2)); break;
      case "over": due(name, near(0, 47), near(0, 1)); break;
      case "lifts": case "fast": due(name, near(0, 40), near(0, 1)); break;
      case "best": due(name, aSlate(), near(0, 1)); break;
      case "odds": due(name, near(0, 47), near(0, 1)); break;
      case "fits": due(name, near(0, 3), near(0, 1)); break;
      case "voice": {
        due(name, aSlate(), near(0, 3), aNumber());
        due("count", 6);
        for (int i = 0; i < 8; i++) due("body", i);
        break;
      }
      case "body": due(name, near(0, 7)); break;
      case "sheet": due(name, near(0, 3), pick(0, 8, 16, 32, 32, 16, 8, 7), near(0, 24)); break;
      case "put": due(name, near(0, 3), near(0, 11), aSheetNumber()); break;
      case "move": due(name, near(0, 3), near(0, 6), near(0, 3), near(0, 6), near(0, 6)); break;
      case "nailed": case "judge": due(name, near(0, 3)); break;
      case "tell": due(name, near(0, 9)); break;
      case "count": due(name, near(0, 7)); break;
      case "told": due(name, near(1, 6)); break;
      default: due(name); break;
    }
  }

  private boolean run(int many) {
    if (random.nextInt(2) == 0) whole();
    while (twins.calls() < many && !twins.wrong) step();
    for (int i = 0; i < 10; i++) for (int what = 0; what < 10; what++) due("slateIs", i, what);
    for (int what = 0; what < 8; what++) due("count", what);
    for (int k = 1; k <= 6; k++) due("told", k);
    return !twins.wrong;
  }

  public static void main(String[] args) {
    int runs = args.length > 0 ? Integer.parseInt(args[0]) : 600;
    int bad = 0;
    for (int i = 0; i < runs && bad < 3; i++) {
      if (!new RandomRunsTest(1000L + i).run(340)) {
        System.out.println("run " + i + " is wrong");
        bad++;
      }
    }
    System.out.println(bad == 0 ? "all drawn runs are as due" : bad + " drawn runs are wrong");
    if (bad != 0) System.exit(1);
  }
}
