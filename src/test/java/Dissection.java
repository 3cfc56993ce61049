import java.util.ArrayList;
import java.util.List;

/**
 * All that can be asked of an object, by a run of calls that spends it: two objects that answer alike here
 * are in the same state. Some 400 calls, so that the one who made it has some 100.
 */
final class Dissection {
  private final SlateKin x;
  private final List<Long> answers = new ArrayList<>();
  final long[] told = new long[7];

  Dissection(SlateKin of) {
    x = of;
    for (int k = 1; k <= 6; k++) told[k] = x.told(k);
    look();
    sheets();
    spend();
    add(x.restore());
    look();
    spend();
    add(x.image());
  }

  /** The numbers of the answers that are unlike, as a text; empty if all are alike. */
  String unlike(Dissection other) {
    if (answers.size() != other.answers.size()) return "another number of answers";
    StringBuilder s = new StringBuilder();
    for (int i = 0; i < answers.size(); i++) {
      if (!answers.get(i).equals(other.answers.get(i))) {
        s.append(" answer ").append(i).append(": ").append(answers.get(i)).append(", not ").append(other.answers.get(i));
      }
    }
    return s.toString();
  }

  private void add(long answer) {
    answers.add(answer);
  }

  private void look() {
    for (int what = 0; what < 8; what++) add(x.count(what));
    for (int s = 0; s < x.count(0); s++) for (int what = 0; what < 10; what++) add(x.slateIs(s, what));
    add(x.dry(0));
    for (int use = 0; use < 2; use++) add(x.law(use, 3, 5, 7));
    for (int i = 0; i < x.count(6); i++) add(x.body(i));
  }

  /** A number of a SHEET is seen where it becomes NAILS. */
  private void sheets() {
    x.slate(0, 1, 0, -1);
    for (int s = 0; s < 4; s++) for (int t = 0; t < s; t++) add(x.move(s, 0, t, 0, 0));
    for (int s = 0; s < 4; s++) {
      int i = 0;
      while (x.move(s, i, s, 0, 1) == 1) {
        add(x.nailed(s) > 0 ? 1 : 0);
        add(x.slateIs(0, 3));
        i++;
      }
      add(i);
      add(x.put(s, 0, -2));
      add(x.put(s, 0, 255));
      add(x.judge(s));
    }
  }

  private void spend() {
    add(x.check());
    add(x.text(0));
    add(x.law(0, 3, 5, 7));
    add(x.untell(0));
    add(x.untell(1));
    add(x.seed(9));
  }
}
