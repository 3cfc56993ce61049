import java.util.ArrayList;
import java.util.List;

/** One object of the program and one of NaiveKin, which are told the same calls: every answer is compared. */
final class Twins {
  final NaiveKin naive = new NaiveKin();
  boolean wrong = false;
  private final SlateKin kin = new SlateKin();
  private final List<String> log = new ArrayList<>();

  int calls() {
    return log.size();
  }

  /** What the program answered; the first answer that is wrong is printed with all calls ahead of it. */
  long due(String name, long... a) {
    long want = naive.call(name, a);
    String call = told(name, a);
    long got;
    try {
      got = said(name, a);
    } catch (RuntimeException | Error e) {
      log.add(call + " threw " + e);
      failed(want);
      return want;
    }
    log.add(call + " answered " + got);
    if (got != want) failed(want);
    return got;
  }

  private static String told(String name, long[] a) {
    StringBuilder row = new StringBuilder(name).append('(');
    for (int i = 0; i < a.length; i++) row.append(i == 0 ? "" : ", ").append(a[i]);
    return row.append(')').toString();
  }

  private void failed(long want) {
    if (!wrong) {
      for (String row : log) System.out.println("  " + row);
      System.out.println("due is " + want);
    }
    wrong = true;
  }

  private long said(String name, long[] l) {
    int[] a = new int[5];
    for (int i = 0; i < l.length; i++) a[i] = (int) l[i];
    switch (name) {
      case "slate": return kin.slate(a[0], a[1], a[2], a[3]);
      case "slateIs": return kin.slateIs(a[0], a[1]);
      case "become": return kin.become(a[0], a[1]);
      case "as": return kin.as(a[0], a[1]);
      case "lay": return kin.lay(a[0], a[1], a[2]);
      case "lift": return kin.lift(a[0]);
      case "nail": return kin.nail(a[0], a[1]);
      case "sells": return kin.sells(a[0]);
      case "feed": return kin.feed(l[0], a[1]);
      case "text": return kin.text(a[0]);
      case "untell": return kin.untell(a[0]);
      case "law": return kin.law(a[0], a[1], a[2], a[3]);
      case "gale": return kin.gale(a[0]);
      case "years": return kin.years(a[0]);
      case "loose": return kin.loose(a[0]);
      case "seed": return kin.seed(a[0]);
      case "dry": return kin.dry(a[0]);
      case "over": return kin.over(a[0], a[1]);
      case "lifts": return kin.lifts(a[0], a[1]);
      case "fast": return kin.fast(a[0], a[1]);
      case "best": return kin.best(a[0], a[1]);
      case "rings": return kin.rings();
      case "odds": return kin.odds(a[0], a[1]);
      case "fits": return kin.fits(a[0], a[1]);
      case "voice": return kin.voice(a[0], a[1], a[2]);
      case "body": return kin.body(a[0]);
      case "sheet": return kin.sheet(a[0], a[1], a[2]);
      case "put": return kin.put(a[0], a[1], a[2]);
      case "move": return kin.move(a[0], a[1], a[2], a[3], a[4]);
      case "nailed": return kin.nailed(a[0]);
      case "judge": return kin.judge(a[0]);
      case "image": return kin.image();
      case "restore": return kin.restore();
      case "tell": return kin.tell(a[0]);
      case "check": return kin.check();
      case "count": return kin.count(a[0]);
      case "told": return kin.told(a[0]);
      default: throw new IllegalArgumentException(name);
    }
  }
}
